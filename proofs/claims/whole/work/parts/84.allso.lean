/-! ===== L3: a run from the begin on: are all NOTES so ===== -/
section SO
variable {b n po q c nc L r : Nat} {o o' : g_S} {κ0 : Nat → g_S} {σ0 : r_S} {h0 : q_H} {s0 : Nat → Int32}
/-- the reference goes on to the end, though the class has its answer -/
theorem z_soG (X : z_X b n po c o κ0 σ0 h0) (hr : r < 7) (hN : z_nt (κ0 6) s0 nc) (hL : ∀ j, j < nc → ∃ q, q < L ∧ g_A (κ0 6) 5 j = nI q) (hL61 : L ≤ 61) : ∀ (m k fu' : Nat) (x : Int32) (κ : Nat → g_S) (σ : r_S) (h : q_H), k + m = 61 → m < fu' → z_rq b n q o' κ0 κ h0 h σ → (∀ j, 85 ≤ j → r_A σ 20 j = s0 j) → (x = 0 ∨ (x = 1 ∧ L ≤ k)) → ∃ σ', t_X12_areAllSo_4 fu' σ (nI r) x (nI k) = some (x, σ') ∧ z_e31 r k σ σ' := by
  intro m
  induction m with
  | zero =>
    intro k fu' x κ σ h hk hf' R h85 hx
    obtain ⟨fu', rfl⟩ := Nat.exists_eq_succ_of_ne_zero (show fu' ≠ 0 by omega)
    refine ⟨σ, ?_, fun _ _ => rfl, fun _ _ _ _ => rfl, rfl, fun _ _ => rfl, fun _ _ => rfl⟩
    rw [t_X12_areAllSo_4, if_pos (show (60 : Int32) < nI k from nI_lt (a := 60) (by omega) (by omega)), z_zc (by rcases hx with h | h; exact Or.inl h; exact Or.inr h.1)]
    rfl
  | succ m ih =>
    intro k fu' x κ σ h hk hf' R h85 hx
    obtain ⟨fu', rfl⟩ := Nat.exists_eq_succ_of_ne_zero (show fu' ≠ 0 by omega)
    obtain ⟨h1, κ1, σ1, -, g2, R1, g4, g5, g6⟩ := z_rq_go X R
    have hn := R.2.2.2.1.1
    have h85' : ∀ j, 85 ≤ j → r_A σ1 20 j = s0 j := fun j hj => (g5 j (by omega)).trans (h85 j hj)
    have hk60 : ¬ (60 : Int32) < nI k := nI_nlt (b := k) (a := 60) (by omega) (by decide)
    have e31 : ∀ v, t_X12_areAllSo_31 (t_X12_areAllSo_4 fu') σ1 (nI r) (nI k) v = t_X12_areAllSo_4 fu' (r_sa σ1 31 (upd (r_A σ1 31) (61 * r + k) (r_A σ1 20 11))) (nI r) v (nI (k + 1)) := fun v => by
      unfold t_X12_areAllSo_31
      rw [z_a11, Option.bind_some, z_ix61, t_si_in (by omega) (by decide), Option.bind_some, nI_1]
    obtain ⟨σ', q1, q2⟩ := ih (k + 1) fu' x κ1 (r_sa σ1 31 (upd (r_A σ1 31) (61 * r + k) (r_A σ1 20 11))) h1 (by omega) (by omega) (z_rq_sa (by decide) R1) (fun j hj => by rw [z_rAn (by decide)]; exact h85' j hj) (by rcases hx with h | h; exact Or.inl h; exact Or.inr ⟨h.1, by omega⟩)
    refine ⟨σ', ?_, (z_e31_step hn g4 g5 q2 (by omega)).1⟩
    rw [t_X12_areAllSo_4, if_neg hk60, g2, Option.bind_some]
    rcases hx with rfl | ⟨rfl, hLk⟩
    · rw [if_pos rfl, t_X12_areAllSo_30, e31]
      exact q1
    · rw [if_neg (by decide)]
      obtain ⟨y, -, -, y3, y4⟩ := z_note (k := k) R1.2.2.2.1 (z_nt_ext hN h85')
      rw [y3, Option.bind_some, y4 (fun j hj e => by
        obtain ⟨p, hp, ep⟩ := hL j hj
        have := (nI_eq (a := p) (b := k) (by omega) (by omega)).mp (ep.symm.trans e)
        omega), if_neg (by decide), e31]
      exact q1
theorem z_lastlt : ∀ L, L < 62 → ∀ k, k < 62 → ((nI L + (-1) < nI k) ↔ L ≤ k) := by decide +kernel
/-- the class looks as long as it must -/
theorem z_soA (X : z_X b n po c o κ0 σ0 h0) (hr : r < 7) (hN : z_nt (κ0 6) s0 nc) (hL : ∀ j, j < nc → ∃ q, q < L ∧ g_A (κ0 6) 5 j = nI q) (hL61 : L ≤ 61) : ∀ (m k fu fu' : Nat) (κ : Nat → g_S) (σ : r_S) (h : q_H), k + m = 61 → m < fu → m < fu' → z_rq b n q o' κ0 κ h0 h σ → (∀ j, 85 ≤ j → r_A σ 20 j = s0 j) → ∃ x h' κ' σ', (x = 0 ∨ x = 1) ∧ m_X8_isAsNoted_28 fu h (b + 130) (nI L + (-1)) (nI k) = some (x, h') ∧ z_q b κ0 κ' h0 h' ∧ (∀ j, j ≠ 10 → j ≠ 11 → κ' j = κ j) ∧ t_X12_areAllSo_4 fu' σ (nI r) 1 (nI k) = some (x, σ') ∧ z_e31 r k σ σ' := by
  intro m
  induction m with
  | zero =>
    intro k fu fu' κ σ h hk hf hf' R h85
    obtain ⟨fu, rfl⟩ := Nat.exists_eq_succ_of_ne_zero (show fu ≠ 0 by omega)
    obtain ⟨σ', q1, q2⟩ := z_soG X hr hN hL hL61 0 k fu' 1 κ σ h (by omega) hf' R h85 (Or.inr ⟨rfl, by omega⟩)
    refine ⟨1, h, κ, σ', Or.inr rfl, ?_, R.1, fun _ _ _ => rfl, q1, q2⟩
    rw [m_X8_isAsNoted_28, if_pos ((z_lastlt L (by omega) k (by omega)).mpr (by omega))]
  | succ m ih =>
    intro k fu fu' κ σ h hk hf hf' R h85
    obtain ⟨fu, rfl⟩ := Nat.exists_eq_succ_of_ne_zero (show fu ≠ 0 by omega)
    by_cases cL : L ≤ k
    · obtain ⟨σ', q1, q2⟩ := z_soG X hr hN hL hL61 (m + 1) k fu' 1 κ σ h (by omega) hf' R h85 (Or.inr ⟨rfl, cL⟩)
      refine ⟨1, h, κ, σ', Or.inr rfl, ?_, R.1, fun _ _ _ => rfl, q1, q2⟩
      rw [m_X8_isAsNoted_28, if_pos ((z_lastlt L (by omega) k (by omega)).mpr cL)]
    · obtain ⟨fu', rfl⟩ := Nat.exists_eq_succ_of_ne_zero (show fu' ≠ 0 by omega)
      obtain ⟨h1, κ1, σ1, g1, g2, R1, g4, g5, g6⟩ := z_rq_go X R
      have hn := R.2.2.2.1.1
      have W := R.1.1
      have W1 := R1.1.1
      have h85' : ∀ j, 85 ≤ j → r_A σ1 20 j = s0 j := fun j hj => (g5 j (by omega)).trans (h85 j hj)
      have hk60 : ¬ (60 : Int32) < nI k := nI_nlt (b := k) (a := 60) (by omega) (by decide)
      have e31 : ∀ v, t_X12_areAllSo_31 (t_X12_areAllSo_4 fu') σ1 (nI r) (nI k) v = t_X12_areAllSo_4 fu' (r_sa σ1 31 (upd (r_A σ1 31) (61 * r + k) (r_A σ1 20 11))) (nI r) v (nI (k + 1)) := fun v => by
        unfold t_X12_areAllSo_31
        rw [z_a11, Option.bind_some, z_ix61, t_si_in (by omega) (by decide), Option.bind_some, nI_1]
      have e6 : κ1 6 = κ0 6 := R1.1.2.1 6 (by omega)
      obtain ⟨y, y1, y2, y3, y4⟩ := z_note (k := k) R1.2.2.2.1 (z_nt_ext hN h85')
      have y2' : m_X0_notesAllow h1 (b + 13) (nI k) (g_I (κ1 11) 0) = some y := by
        refine l_X0_notesAllow _ _ _ _ _ ?_ (Ww6 W1)
        rw [e6, R1.2.2.2.2.2.2.1.1]
        exact y2
      have eA : m_X8_isAsNoted_28 (fu + 1) h (b + 130) (nI L + (-1)) (nI k) = if y = 0 then some (0, h1) else m_X8_isAsNoted_28 fu h1 (b + 130) (nI L + (-1)) (nI (k + 1)) := by
        rw [m_X8_isAsNoted_28, if_neg (fun e => cL ((z_lastlt L (by omega) k (by omega)).mp e)), We2 W, Option.bind_some, We3 W, Option.bind_some, ca1 (Ww10 W), g1, Option.bind_some, We0 W1, Option.bind_some, We3 W1, Option.bind_some, gi10_0 (Ww11 W1), Option.bind_some, ca0 (Ww6 W1), y2', Option.bind_some, nI_1]
      rcases y1 with rfl | rfl
      · obtain ⟨σ', q1, q2⟩ := z_soG X hr hN hL hL61 m (k + 1) fu' 0 κ1 (r_sa σ1 31 (upd (r_A σ1 31) (61 * r + k) (r_A σ1 20 11))) h1 (by omega) (by omega) (z_rq_sa (by decide) R1) (fun j hj => by rw [z_rAn (by decide)]; exact h85' j hj) (Or.inl rfl)
        refine ⟨0, h1, κ1, σ', Or.inl rfl, by rw [eA, if_pos rfl], R1.1, g6, ?_, (z_e31_step hn g4 g5 q2 (by omega)).1⟩
        rw [t_X12_areAllSo_4, if_neg hk60, g2, Option.bind_some, if_neg (by decide), y3, Option.bind_some, if_pos rfl, t_X12_areAllSo_30, e31]
        exact q1
      · obtain ⟨x, h', κ', σ', q0, q1, q2, q3, q4, q5⟩ := ih (k + 1) fu fu' κ1 (r_sa σ1 31 (upd (r_A σ1 31) (61 * r + k) (r_A σ1 20 11))) h1 (by omega) (by omega) (by omega) (z_rq_sa (by decide) R1) (fun j hj => by rw [z_rAn (by decide)]; exact h85' j hj)
        refine ⟨x, h', κ', σ', q0, by rw [eA, if_neg (by decide)]; exact q1, q2, fun j j1 j2 => (q3 j j1 j2).trans (g6 j j1 j2), ?_, (z_e31_step hn g4 g5 q5 (by omega)).1⟩
        rw [t_X12_areAllSo_4, if_neg hk60, g2, Option.bind_some, if_neg (by decide), y3, Option.bind_some, if_neg (by decide), e31]
        exact q4
/-- the class follows the RIBBON to the end, as the reference does -/
theorem z_soF (X : z_X b n po c o κ0 σ0 h0) (hr : r < 7) {t : Nat} (ht : t < 7) (hN : z_nt (κ0 6) s0 nc) : ∀ (m k fu fu' : Nat) (x : Int32) (κ : Nat → g_S) (σ : r_S) (h : q_H), k + m = 61 → m < fu → m < fu' → z_rq b n q o' κ0 κ h0 h σ → (∀ j, 85 ≤ j → r_A σ 20 j = s0 j) → (x = 0 ∨ x = 1) → ∃ x' h' κ' σ', m_X8_follow_31 fu h (b + 130) (nI t) (nI k) = some h' ∧ z_q b κ0 κ' h0 h' ∧ t_X12_areAllSo_4 fu' σ (nI r) x (nI k) = some (x', σ') ∧ z_e31 r k σ σ' ∧ (∀ j, k ≤ j → j < 61 → g_A (κ' 14) t j = r_A σ' 31 (61 * r + j)) ∧ (∀ j, j < k → g_A (κ' 14) t j = g_A (κ 14) t j) ∧ (∀ i, i ≠ t → g_A (κ' 14) i = g_A (κ 14) i) := by
  intro m
  induction m with
  | zero =>
    intro k fu fu' x κ σ h hk hf hf' R h85 hx
    obtain ⟨fu, rfl⟩ := Nat.exists_eq_succ_of_ne_zero (show fu ≠ 0 by omega)
    obtain ⟨fu', rfl⟩ := Nat.exists_eq_succ_of_ne_zero (show fu' ≠ 0 by omega)
    refine ⟨x, h, κ, σ, ?_, R.1, ?_, ⟨fun _ _ => rfl, fun _ _ _ _ => rfl, rfl, fun _ _ => rfl, fun _ _ => rfl⟩, fun j h1 h2 => by omega, fun _ _ => rfl, fun _ _ => rfl⟩
    · rw [m_X8_follow_31, if_pos (show (60 : Int32) < nI k from nI_lt (a := 60) (by omega) (by omega))]
    · rw [t_X12_areAllSo_4, if_pos (show (60 : Int32) < nI k from nI_lt (a := 60) (by omega) (by omega)), z_zc hx]
      rfl
  | succ m ih =>
    intro k fu fu' x κ σ h hk hf hf' R h85 hx
    obtain ⟨fu, rfl⟩ := Nat.exists_eq_succ_of_ne_zero (show fu ≠ 0 by omega)
    obtain ⟨fu', rfl⟩ := Nat.exists_eq_succ_of_ne_zero (show fu' ≠ 0 by omega)
    obtain ⟨h1, κ1, σ1, g1, g2, R1, g4, g5, g6⟩ := z_rq_go X R
    have hn := R.2.2.2.1.1
    have W := R.1.1
    have W1 := R1.1.1
    have h85' : ∀ j, 85 ≤ j → r_A σ1 20 j = s0 j := fun j hj => (g5 j (by omega)).trans (h85 j hj)
    have hk60 : ¬ (60 : Int32) < nI k := nI_nlt (b := k) (a := 60) (by omega) (by decide)
    have e31 : ∀ v, t_X12_areAllSo_31 (t_X12_areAllSo_4 fu') σ1 (nI r) (nI k) v = t_X12_areAllSo_4 fu' (r_sa σ1 31 (upd (r_A σ1 31) (61 * r + k) (r_A σ1 20 11))) (nI r) v (nI (k + 1)) := fun v => by
      unfold t_X12_areAllSo_31
      rw [z_a11, Option.bind_some, z_ix61, t_si_in (by omega) (by decide), Option.bind_some, nI_1]
    -- the class writes the track
    have c14 : h1 (b + 143 + t) = .inl (1, 61, .inl (g_A (κ1 14) t)) := Ww14 W1 t ht
    have hsi := z_qsi (v := g_I (κ1 11) 0) (by decide) (show k < 61 by omega) c14
    have har : q_ar h1 (b + 142) 7 (nI t) = some (some (b + 143 + t)) := by
      unfold q_ar
      rw [Wwk W1]
      refine (if_pos ⟨rfl, (show q_in (nI t) 7 from vp_in_nI ht (by decide))⟩).trans ?_
      rw [nI_clamp (by omega)]
      show some (if t < 7 then some (b + 143 + t) else none) = _
      rw [if_pos ht]
    have W2 : z_W b (va_up κ1 14 (g_sa (κ1 14) t (upd (g_A (κ1 14) t) k (g_I (κ1 11) 0)))) (va_up h1 (b + 143 + t) (.inl (1, 61, .inl (upd (g_A (κ1 14) t) k (g_I (κ1 11) 0))))) := W_14 W1 (fun i hi => by
      by_cases e : i = t
      · rw [e, va_up_at, z_sa_at]
      · rw [va_up_of (by omega), z_sa_of e]
        exact Ww14 W1 i hi) (fun a ha => va_up_of (fun e => ha ⟨t, ht, e⟩))
    have R2 : z_rq b n q o' κ0 (va_up κ1 14 (g_sa (κ1 14) t (upd (g_A (κ1 14) t) k (g_I (κ1 11) 0)))) h0 (va_up h1 (b + 143 + t) (.inl (1, 61, .inl (upd (g_A (κ1 14) t) k (g_I (κ1 11) 0))))) σ1 := by
      obtain ⟨a1, a2, a3, a4, a5, a6, a7, a8, a9, a10⟩ := R1
      refine ⟨⟨W2, fun j hj => (va_up_of (by omega)).trans (a1.2.1 j hj), fun a ha => (va_up_of (by omega)).trans (a1.2.2 a ha)⟩, a2, fr4 a3 (fun a ha => va_up_of (by unfold f4 at ha; omega)), a4, a5, a6, ?_, ?_, ?_, ?_⟩
      · rw [va_up_of (by decide)]; exact a7
      · rw [va_up_of (by decide)]; exact a8
      · rw [va_up_of (by decide)]
        exact z_ru_fr a9 (fun a ha => va_up_of (by omega)) rfl rfl rfl
      · intro p hp
        rw [va_up_of (by decide)]
        exact a10 p hp
    have e14 : g_A (va_up κ1 14 (g_sa (κ1 14) t (upd (g_A (κ1 14) t) k (g_I (κ1 11) 0))) 14) t = upd (g_A (κ1 14) t) k (g_I (κ1 11) 0) := by rw [va_up_at, z_sa_at]
    have e14' : ∀ i, i ≠ t → g_A (va_up κ1 14 (g_sa (κ1 14) t (upd (g_A (κ1 14) t) k (g_I (κ1 11) 0))) 14) i = g_A (κ 14) i := fun i hi => by rw [va_up_at, z_sa_of hi, g6 14 (by decide) (by decide)]
    -- both go on, by whatever the reference has found
    have cont : ∀ x1 : Int32, (x1 = 0 ∨ x1 = 1) → t_X12_areAllSo_4 (fu' + 1) σ (nI r) x (nI k) = t_X12_areAllSo_4 fu' (r_sa σ1 31 (upd (r_A σ1 31) (61 * r + k) (r_A σ1 20 11))) (nI r) x1 (nI (k + 1)) → ∃ x' h' κ' σ', m_X8_follow_31 (fu + 1) h (b + 130) (nI t) (nI k) = some h' ∧ z_q b κ0 κ' h0 h' ∧ t_X12_areAllSo_4 (fu' + 1) σ (nI r) x (nI k) = some (x', σ') ∧ z_e31 r k σ σ' ∧ (∀ j, k ≤ j → j < 61 → g_A (κ' 14) t j = r_A σ' 31 (61 * r + j)) ∧ (∀ j, j < k → g_A (κ' 14) t j = g_A (κ 14) t j) ∧ (∀ i, i ≠ t → g_A (κ' 14) i = g_A (κ 14) i) := by
      intro x1 hx1 e
      obtain ⟨x', h', κ', σ', q1, q2, q3, q4, q5, q6, q7⟩ := ih (k + 1) fu fu' x1 _ (r_sa σ1 31 (upd (r_A σ1 31) (61 * r + k) (r_A σ1 20 11))) _ (by omega) (by omega) (by omega) (z_rq_sa (by decide) R2) (fun j hj => by rw [z_rAn (by decide)]; exact h85' j hj) hx1
      obtain ⟨s1, s2⟩ := z_e31_step hn g4 g5 q4 (by omega)
      refine ⟨x', h', κ', σ', ?_, q2, e.trans q3, s1, fun j h1 h2 => ?_, fun j hj => ?_, fun i hi => (q7 i hi).trans (e14' i hi)⟩
      · rw [m_X8_follow_31, if_neg hk60, We2 W, Option.bind_some, We3 W, Option.bind_some, ca1 (Ww10 W), g1, Option.bind_some, We6 W1, Option.bind_some, har, Option.bind_some, Option.bind_some, We3 W1, Option.bind_some, gi10_0 (Ww11 W1), Option.bind_some, hsi, Option.bind_some, nI_1]
        exact q1
      · by_cases ej : j = k
        · rw [ej, q6 k (by omega), e14, pk_us, s2, R1.2.2.2.2.2.2.1.1]
        · exact q5 j (by omega) h2
      · rw [q6 j (by omega), e14, pk_un (by omega), g6 14 (by decide) (by decide)]
    rcases hx with rfl | rfl
    · refine cont 0 (Or.inl rfl) ?_
      rw [t_X12_areAllSo_4, if_neg hk60, g2, Option.bind_some, if_pos rfl, t_X12_areAllSo_30, e31]
    · obtain ⟨y, y1, y2, y3, y4⟩ := z_note (k := k) R1.2.2.2.1 (z_nt_ext hN h85')
      rcases y1 with rfl | rfl
      · refine cont 0 (Or.inl rfl) ?_
        rw [t_X12_areAllSo_4, if_neg hk60, g2, Option.bind_some, if_neg (by decide), y3, Option.bind_some, if_pos rfl, t_X12_areAllSo_30, e31]
      · refine cont 1 (Or.inr rfl) ?_
        rw [t_X12_areAllSo_4, if_neg hk60, g2, Option.bind_some, if_neg (by decide), y3, Option.bind_some, if_neg (by decide), e31]
end SO
