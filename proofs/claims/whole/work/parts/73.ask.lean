/-! ===== L3: what is asked of how it goes on: both sides try, and lay all back ===== -/
theorem z_ix10 (k : Nat) : (10 : Int32) + nI k = nI (10 + k) := nI_add 10 k
theorem z_keepsL {s : Nat → Int32} : ∀ (m k fu : Nat) (σ : r_S), k + m = 42 → m < fu → r_A σ 20 = s → ∃ f, t_X12_keeps_2 fu σ (nI k) = some (r_sa σ 27 f) ∧ (∀ j, j < k → f j = r_A σ 27 j) ∧ (∀ j, k ≤ j → j < 42 → f j = s (10 + j)) := by
  intro m
  induction m with
  | zero =>
    intro k fu σ hk hf hs
    obtain ⟨fu, rfl⟩ := Nat.exists_eq_succ_of_ne_zero (show fu ≠ 0 by omega)
    refine ⟨r_A σ 27, ?_, fun _ _ => rfl, fun j h1 h2 => by omega⟩
    rw [t_X12_keeps_2, if_pos (show (42 : Int32) ≤ nI k from nI_le (a := 42) (by omega) (by omega)), z_ra_eta]
  | succ m ih =>
    intro k fu σ hk hf hs
    obtain ⟨fu, rfl⟩ := Nat.exists_eq_succ_of_ne_zero (show fu ≠ 0 by omega)
    obtain ⟨f, e1, e2, e3⟩ := ih (k + 1) fu (r_sa σ 27 (upd (r_A σ 27) k (s (10 + k)))) (by omega) (by omega) (by rw [z_rAn (by decide)]; exact hs)
    rw [z_rA] at e2
    refine ⟨f, ?_, fun j hj => ?_, fun j h1 h2 => ?_⟩
    · rw [t_X12_keeps_2, if_neg (show ¬ (42 : Int32) ≤ nI k from nI_ge (b := 42) (by omega) (by decide)), z_ix10, t_ai_in (by omega) (by decide), Option.bind_some, t_si_in (by omega) (by decide), Option.bind_some, nI_1, hs, e1, z_raa]
    · rw [e2 j (by omega), pk_un (by omega)]
    · by_cases e : j = k
      · rw [e, e2 k (by omega), pk_us]
      · exact e3 j (by omega) h2
theorem z_laysL {f : Nat → Int32} : ∀ (m k fu : Nat) (σ : r_S), k + m = 42 → m < fu → r_A σ 27 = f → ∃ s, t_X12_laysBack_2 fu σ (nI k) = some (r_sa σ 20 s) ∧ (∀ j, j < 10 + k ∨ 52 ≤ j → s j = r_A σ 20 j) ∧ (∀ j, 10 + k ≤ j → j < 52 → s j = f (j - 10)) := by
  intro m
  induction m with
  | zero =>
    intro k fu σ hk hf hs
    obtain ⟨fu, rfl⟩ := Nat.exists_eq_succ_of_ne_zero (show fu ≠ 0 by omega)
    refine ⟨r_A σ 20, ?_, fun _ _ => rfl, fun j h1 h2 => by omega⟩
    rw [t_X12_laysBack_2, if_pos (show (42 : Int32) ≤ nI k from nI_le (a := 42) (by omega) (by omega)), z_ra_eta]
  | succ m ih =>
    intro k fu σ hk hf hs
    obtain ⟨fu, rfl⟩ := Nat.exists_eq_succ_of_ne_zero (show fu ≠ 0 by omega)
    obtain ⟨s, e1, e2, e3⟩ := ih (k + 1) fu (r_sa σ 20 (upd (r_A σ 20) (10 + k) (f k))) (by omega) (by omega) (by rw [z_rAn (by decide)]; exact hs)
    rw [z_rA] at e2
    refine ⟨s, ?_, fun j hj => ?_, fun j h1 h2 => ?_⟩
    · rw [t_X12_laysBack_2, if_neg (show ¬ (42 : Int32) ≤ nI k from nI_ge (b := 42) (by omega) (by decide)), t_ai_in (by omega) (by decide), Option.bind_some, z_ix10, t_si_in (by omega) (by decide), Option.bind_some, nI_1, hs, e1, z_raa]
    · rw [e2 j (by omega), pk_un (by omega)]
    · by_cases e : j = 10 + k
      · rw [e, e2 (10 + k) (by omega), pk_us, Nat.add_sub_cancel_left]
      · exact e3 j (by omega) h2
/-- the reference while it tries: what it will lay back is kept -/
def z_k (σ0 σ : r_S) : Prop := (∀ k, k ≠ 18 → k ≠ 21 → r_I σ k = r_I σ0 k) ∧ (∀ k, k ≠ 20 → k ≠ 23 → (k < 24 ∨ k = 25 ∨ 31 < k) → r_A σ k = r_A σ0 k) ∧ (∀ j, j < 42 → r_A σ 27 j = r_A σ0 20 (10 + j)) ∧ (∀ j, j < 10 ∨ 52 ≤ j → r_A σ 20 j = r_A σ0 20 j)
theorem z_keeps (σ0 : r_S) : ∃ σ1, t_X12_keeps σ0 = some σ1 ∧ z_k σ0 σ1 ∧ r_A σ1 20 = r_A σ0 20 ∧ r_A σ1 23 = r_A σ0 23 ∧ r_I σ1 21 = r_I σ0 21 ∧ r_D σ1 = r_D σ0 := by
  obtain ⟨f, e1, -, e3⟩ := z_keepsL (s := r_A σ0 20) 42 0 q_fu σ0 (by omega) (by show 42 < 5000; omega) rfl
  refine ⟨_, e1, ⟨fun _ _ _ => rfl, fun k h1 _ h2 => z_rAn (by omega), fun j hj => ?_, fun j _ => by rw [z_rAn (by decide)]⟩, z_rAn (by decide), z_rAn (by decide), rfl, rfl⟩
  rw [z_rA]
  exact e3 j (by omega) hj
theorem z_lays {σ0 σ : r_S} (H : z_k σ0 σ) : t_X12_laysBack σ = some (r_sa σ 20 (r_A σ0 20)) ∧ z_k σ0 (r_sa σ 20 (r_A σ0 20)) := by
  obtain ⟨h1, h2, h3, h4⟩ := H
  obtain ⟨s, e1, e2, e3⟩ := z_laysL (f := r_A σ 27) 42 0 q_fu σ (by omega) (by show 42 < 5000; omega) rfl
  have es : s = r_A σ0 20 := by
    funext j
    by_cases c : 10 ≤ j ∧ j < 52
    · rw [e3 j (by omega) c.2, h3 _ (by omega)]
      congr 1
      omega
    · rw [e2 j (by omega)]
      exact h4 j (by omega)
  rw [es] at e1
  exact ⟨e1, fun k hk hk2 => h1 k hk hk2, fun k a c b => (z_rAn a).trans (h2 k a c b), fun j hj => by rw [z_rAn (by decide)]; exact h3 j hj, fun j _ => by rw [z_rA]⟩
theorem z_k_eqv {σ0 σ σ' : r_S} {n : Nat} (hn : n ≤ 8) (H : z_k σ0 σ) (E : z_eqv σ σ') (hj : ∀ j, j < 10 ∨ 12 + 5 * n ≤ j → r_A σ' 20 j = r_A σ 20 j) : z_k σ0 σ' := by
  obtain ⟨h1, h2, h3, h4⟩ := H
  exact ⟨fun k hk hk2 => (E.1 k hk).trans (h1 k hk hk2), fun k a c b => (E.2.1 k a (by omega)).trans (h2 k a c b), fun j hj' => by rw [E.2.1 27 (by decide) (by decide)]; exact h3 j hj', fun j hj' => (hj j (by omega)).trans (h4 j hj')⟩
/-- RULES that are told -/
def z_RU (b : Nat) (κ : Nat → g_S) (σ : r_S) (h : q_H) (c : Nat) : Prop := c ≤ 6 ∧ g_I (κ 0) 4 = nI c ∧ r_I σ 2 = nI c ∧ (∀ i, i < c → ∃ pr B, g_P (κ 5) i = some pr ∧ b + 175 ≤ pr ∧ g6 pr B h ∧ z_rl B σ i) ∧ (∀ i, c ≤ i → i < 6 → g_P (κ 5) i = none) ∧ (r_I σ 21 = -1 ∨ ∃ i, i < c ∧ r_I σ 21 = nI i) ∧ g_I (κ 6) 2 = r_I σ 21
/-- a ROPE is told: the class and the reference, ahead of what is asked -/
def z_X (b n po c : Nat) (o : g_S) (κ : Nat → g_S) (σ : r_S) (h : q_H) : Prop := z_W b κ h ∧ g_P (κ 6) 0 = some po ∧ b + 175 ≤ po ∧ g4 po o h ∧ z_o o (r_A σ 20) n ∧ z_R (r_A σ 20) n ∧ z_V (r_A σ 20) n ∧ z_t (κ 7) (r_A σ 20) n ∧ nb (r_A σ 20 10) 999 ∧ z_RU b κ σ h c ∧ (∀ i pr, i < 6 → g_P (κ 5) i = some pr → po + 5 ≤ pr ∨ pr + 3 ≤ po) ∧ (∀ p, p < 8 → r_A σ 23 p = -1)
/-- the class while it tries: nothing but the Heaver's and the Seer's cells -/
def z_q (b : Nat) (κ0 κ : Nat → g_S) (h0 h : q_H) : Prop := z_W b κ h ∧ (∀ k, k < 10 ∨ 20 ≤ k → κ k = κ0 k) ∧ (∀ a, b + 152 ≤ a → h a = h0 a)
theorem z_ruleAt {b : Nat} {κ : Nat → g_S} {h : q_H} (W : z_W b κ h) {i : Nat} (hi : i < 6) : m_X8_ruleAt h (b + 130) (nI i) = some (g_P (κ 5) i) := by
  have e1 : q_ln h (b + 12) = some (nI 6) := by
    unfold q_ln
    rw [Ww5 W]
    rfl
  have e2 : q_ar h (b + 12) 5 (nI i) = some (g_P (κ 5) i) := by
    unfold q_ar
    rw [Ww5 W]
    show (if 5 = 5 ∧ q_in (nI i) 6 then some (g_P (κ 5) (nI i).toNatClampNeg) else none) = _
    rw [if_pos ⟨rfl, (show q_in (nI i) 6 from vp_in_nI hi (by decide))⟩, nI_clamp (by omega)]
  unfold m_X8_ruleAt
  rw [if_neg (nI_pos (by omega)), We1 W, Option.bind_some, e1, Option.bind_some, if_pos (nI_lt hi (by decide)), Option.bind_some, e2]
  rfl
theorem z_ruleAtN {h : q_H} {a : Nat} : m_X8_ruleAt h a (-1) = some none := by
  unfold m_X8_ruleAt
  rw [if_pos (by decide)]
  rfl
/-- the RULE by its number, and how it fits the reference -/
theorem z_ruF {b n po c : Nat} {o : g_S} {κ0 κ : Nat → g_S} {σ0 σ : r_S} {h0 h : q_H} {f : Int32} (X : z_X b n po c o κ0 σ0 h0) (Q : z_q b κ0 κ h0 h) (h3 : r_A σ 3 = r_A σ0 3) (h5 : r_A σ 5 = r_A σ0 5) (h6 : r_A σ 6 = r_A σ0 6) (hf : f = -1 ∨ ∃ i, i < c ∧ f = nI i) : ∃ ro, m_X8_ruleAt h (b + 130) f = some ro ∧ ∀ q, (q = po ∨ q = b + 136) → z_ru b ro f σ h q := by
  obtain ⟨-, -, hpo, -, -, -, -, -, -, hRU, hD, -⟩ := X
  obtain ⟨W, hk, hh⟩ := Q
  obtain ⟨c6, -, -, r1, -⟩ := hRU
  rcases hf with rfl | ⟨i, hi, rfl⟩
  · exact ⟨none, z_ruleAtN, fun q _ => Or.inl ⟨rfl, rfl⟩⟩
  · obtain ⟨pr, B, a1, a2, a3, a4⟩ := r1 i hi
    refine ⟨some pr, ?_, fun q hq => Or.inr ⟨i, pr, B, by omega, rfl, rfl, a2, fr6 a3 (fun a ha => hh a (by unfold f6 at ha; omega)), z_rl_ext a4 (fun i _ => by rw [h3]) (fun i _ => by rw [h5]) (by rw [h6]), ?_⟩⟩
    · rw [z_ruleAt W (by omega), hk 5 (by omega), a1]
    · rcases hq with rfl | rfl
      · exact hD i pr (by omega) a1
      · omega
theorem z_ruleIF {b : Nat} {κ : Nat → g_S} {h : q_H} (W : z_W b κ h) : m_X8_ruleInForce h (b + 130) = m_X8_ruleAt h (b + 130) (g_I (κ 6) 2) := by
  unfold m_X8_ruleInForce
  rw [We0 W, Option.bind_some, show q_gi h (b + 13) 0 2 = some (g_I (κ 6) 2) from gi0_2 (Ww6 W), Option.bind_some, Wca8 W]
  cases m_X8_ruleAt h (b + 130) (g_I (κ 6) 2) <;> rfl
/-- the Heaver takes up ROPE and RULE -/
theorem z_qtake {b po : Nat} {ro : Option Nat} {κ0 κ : Nat → g_S} {h0 h : q_H} (Q : z_q b κ0 κ h0 h) : ∃ h' κ', m_X1_takeUp h (b + 124) po ro = some h' ∧ z_q b κ0 κ' h0 h' ∧ (∀ k, k ≠ 10 → κ' k = κ k) ∧ g_P (κ' 10) 0 = some po ∧ g_P (κ' 10) 1 = ro ∧ (∀ q, q < 8 → g_A (κ' 10) 2 q = -1) ∧ (∀ a, ¬ f1 (b + 124) a → h' a = h a) := by
  obtain ⟨W, hk, hh⟩ := Q
  obtain ⟨h', y', e1, e2, e3, e4, e5, e6⟩ := z_take (po := po) (ro := ro) (Ww10 W)
  refine ⟨h', va_up κ 10 y', e1, ⟨W_10 W e2 e3, fun k hkk => (va_up_of (by omega)).trans (hk k hkk), fun a ha => (e3 a (by unfold f1; omega)).trans (hh a ha)⟩, fun k hkk => va_up_of hkk, ?_, ?_, ?_, e3⟩
  · rw [va_up_at]; exact e4
  · rw [va_up_at]; exact e5
  · rw [va_up_at]; exact e6
/-- all from now on, once more -/
theorem z_start {b n po c : Nat} {o : g_S} {κ0 κ : Nat → g_S} {σ0 σ : r_S} {h0 h : q_H} (X : z_X b n po c o κ0 σ0 h0) (Q : z_q b κ0 κ h0 h) (K : z_k σ0 σ) (hF : r_I σ 21 = r_I σ0 21) : ∃ h' κ', m_X8_startFromNow h (b + 130) = some h' ∧ z_q b κ0 κ' h0 h' ∧ (∀ k, k ≠ 10 → k ≠ 11 → κ' k = κ k) ∧ g_P (κ' 10) 0 = some po ∧ z_ru b (g_P (κ' 10) 1) (r_I σ 21) σ h' po ∧ (∀ q, q < 8 → g_A (κ' 10) 2 q = -1) ∧ z_t (κ' 11) (r_A σ0 20) n := by
  obtain ⟨ro, r1, r2⟩ := z_ruF X Q (K.2.1 3 (by decide) (by decide) (by omega)) (K.2.1 5 (by decide) (by decide) (by omega)) (K.2.1 6 (by decide) (by decide) (by omega)) (X.2.2.2.2.2.2.2.2.2.1).2.2.2.2.2.1
  obtain ⟨h1, κ1, t1, Q1, t3, t4, t5, t6, t7⟩ := z_qtake (po := po) (ro := ro) Q
  have W := Q.1
  have W1 := Q1.1
  have hk := Q.2.1
  have e7 : κ1 7 = κ0 7 := Q1.2.1 7 (by omega)
  obtain ⟨h2, t', c1, c2, c3, c4⟩ := z_copy (Ww11 W1) (Ww7 W1) (by omega)
  have hpo : g_P (κ 6) 0 = some po := by rw [hk 6 (by omega)]; exact X.2.1
  refine ⟨h2, va_up κ1 11 t', ?_, ⟨W_11 W1 c2 c3, fun k hkk => (va_up_of (by omega)).trans (Q1.2.1 k hkk), fun a ha => (c3 a (by unfold f10; omega)).trans (Q1.2.2 a ha)⟩, fun k k1 k2 => (va_up_of k2).trans (t3 k k1), ?_, ?_, ?_, ?_⟩
  · unfold m_X8_startFromNow
    rw [We2 W, Option.bind_some, We0 W, Option.bind_some, Wgr W hpo, Option.bind_some, Wca8 W, z_ruleIF W, hk 6 (by omega), (X.2.2.2.2.2.2.2.2.2.1).2.2.2.2.2.2, r1, Option.bind_some, ca1 (Ww10 W), t1, Option.bind_some, We3 W1, Option.bind_some, We0 W1, Option.bind_some, Wgt W1, Option.bind_some, ca10 (Ww11 W1), c1]
    rfl
  · rw [va_up_of (by decide)]; exact t4
  · rw [va_up_of (by decide), t5, hF]
    exact z_ru_fr (r2 po (Or.inl rfl)) (fun a ha => (c3 a (by unfold f10; omega)).trans (t7 a (by unfold f1; omega))) rfl rfl rfl
  · rw [va_up_of (by decide)]; exact t6
  · rw [va_up_at]
    exact z_teq_t X.2.2.2.2.2.1.1 (by rw [e7] at c4; exact c4) X.2.2.2.2.2.2.2.1
/-- HEAVES that are asked -/
theorem z_go {b n po q c m : Nat} {o o' : g_S} {κ0 κ : Nat → g_S} {σ0 σ : r_S} {h0 h : q_H} (X : z_X b n po c o κ0 σ0 h0) (Q : z_q b κ0 κ h0 h) (Go : g4 q o' h) (hq : b + 175 ≤ q ∨ q = b + 136) (hR : z_R (r_A σ 20) n) (ho : z_o o' (r_A σ 20) n) (hY0 : g_P (κ 10) 0 = some q) (hru : z_ru b (g_P (κ 10) 1) (r_I σ 21) σ h q) (hV : z_V (r_A σ 20) n) (ht : z_t (κ 11) (r_A σ 20) n) (hpl : z_pl (κ 10) σ) (hm : m ≤ 200) :
    ∃ h' κ' σ', m_X1_heaveOn h (b + 124) (b + 131) (nI m) = some h' ∧ z_q b κ0 κ' h0 h' ∧ (∀ k, k ≠ 10 → k ≠ 11 → κ' k = κ k) ∧ t_X12_passesAll σ (nI m) = some σ' ∧ (m = 1 → t_X12_passes σ = some σ') ∧ z_t (κ' 11) (r_A σ' 20) n ∧ z_V (r_A σ' 20) n ∧ (∀ j, j < 10 ∨ 12 + 5 * n ≤ j → r_A σ' 20 j = r_A σ 20 j) ∧ r_A σ' 20 10 = r_A σ 20 10 + nI m ∧ z_eqv σ σ' ∧ g_A (κ' 10) 2 = g_A (κ 10) 2 ∧ g_P (κ' 10) = g_P (κ 10) ∧ z_ru b (g_P (κ' 10) 1) (r_I σ' 21) σ' h' q ∧ g4 q o' h' := by
  obtain ⟨W, hk, hh⟩ := Q
  obtain ⟨h', y', t', σ', c1, c2, c3, c4, c5, c6, c7, c8, c9, c10, c11, c12⟩ := z_HVt W Go hq hY0 hru hR hV ho ht hpl hm
  have e10 : va_up (va_up κ 10 y') 11 t' 10 = y' := (va_up_of (by decide)).trans (va_up_at _ _ _)
  refine ⟨h', va_up (va_up κ 10 y') 11 t', σ', c1, ⟨c2, fun k hkk => ((va_up_of (by omega)).trans (va_up_of (by omega))).trans (hk k hkk), fun a ha => (c3 a (by unfold f1 f10; omega)).trans (hh a ha)⟩, fun k k1 k2 => (va_up_of k2).trans (va_up_of k1), c4, c5, by rw [va_up_at]; exact c6, c7, c8, c9, c10, by rw [e10]; exact c11, by rw [e10]; exact c12, ?_, fr4 Go (fun a ha => c3 a (by unfold f4 at ha; unfold f1 f10; omega))⟩
  rw [e10, c12, c10.1 21 (by decide)]
  exact z_ru_fr hru (fun a ha => c3 a (by unfold f1 f10; omega)) (c10.2.1 3 (by decide) (by decide)) (c10.2.1 5 (by decide) (by decide)) (c10.2.1 6 (by decide) (by decide))
