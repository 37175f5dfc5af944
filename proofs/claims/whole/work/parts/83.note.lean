/-! ===== L3: NOTES, and whether all are so ===== -/
def z_nt (l : g_S) (s : Nat → Int32) (c : Nat) : Prop := c ≤ 10 ∧ g_I l 4 = nI c ∧ s 105 = nI c ∧ ∀ i, i < c → g_A l 5 i = s (85 + 2 * i) ∧ (∃ j, j ≤ 60 ∧ s (85 + 2 * i) = nI j) ∧ g_A l 6 i = s (86 + 2 * i) - 100
theorem z_nt_ext {l : g_S} {s s' : Nat → Int32} {c : Nat} (H : z_nt l s c) (h : ∀ j, 85 ≤ j → s' j = s j) : z_nt l s' c := by
  obtain ⟨a, b, d, e⟩ := H
  refine ⟨a, b, by rw [h 105 (by omega)]; exact d, fun i hi => ?_⟩
  rw [h (85 + 2 * i) (by omega), h (86 + 2 * i) (by omega)]
  exact e i hi
theorem z_sub100 {a b : Int32} : a - 100 = b ↔ b + 100 = a := by
  constructor
  · intro h
    rw [← h, Int32.sub_add_cancel]
  · intro h
    rw [← h, Int32.add_sub_cancel]
/-- what NOTES say of the RIBBON behind a HEAVE, on both sides -/
theorem z_noteL {l : g_S} {σ : r_S} {n c k : Nat} (hR : z_R (r_A σ 20) n) (H : z_nt l (r_A σ 20) c) : ∀ (m i fu fu' : Nat), i + m = c → m < fu → m < fu' → ∃ x, (x = 0 ∨ x = 1) ∧ t_X0_notesAllow_2 fu l (nI k) (r_A σ 20 11) (nI i) = some x ∧ t_X12_areNotesSo_2 fu' σ (nI k) (nI (2 * i)) = some x ∧ ((∀ j, j < c → ¬ g_A l 5 j = nI k) → x = 1) := by
  obtain ⟨hc, h4, h105, hA⟩ := H
  intro m
  induction m with
  | zero =>
    intro i fu fu' hi hf hf'
    obtain ⟨fu, rfl⟩ := Nat.exists_eq_succ_of_ne_zero (show fu ≠ 0 by omega)
    obtain ⟨fu', rfl⟩ := Nat.exists_eq_succ_of_ne_zero (show fu' ≠ 0 by omega)
    refine ⟨1, Or.inr rfl, ?_, ?_, fun _ => rfl⟩
    · rw [t_X0_notesAllow_2]
      try dsimp only
      rw [h4, if_pos (nI_le (by omega) (by omega))]
    · rw [t_X12_areNotesSo_2, z_a105, Option.bind_some, h105, show (2 : Int32) * nI c = nI (2 * c) from pk_mul 2 c, if_pos (nI_le (by omega) (by omega))]
  | succ m ih =>
    intro i fu fu' hi hf hf'
    obtain ⟨fu, rfl⟩ := Nat.exists_eq_succ_of_ne_zero (show fu ≠ 0 by omega)
    obtain ⟨fu', rfl⟩ := Nat.exists_eq_succ_of_ne_zero (show fu' ≠ 0 by omega)
    obtain ⟨a5, -, a6⟩ := hA i (by omega)
    obtain ⟨x, hx, e1, e2, e3⟩ := ih (i + 1) fu fu' (by omega) (by omega) (by omega)
    have i85 : (85 : Int32) + nI (2 * i) = nI (85 + 2 * i) := nI_add 85 (2 * i)
    obtain ⟨XA, hXA⟩ : ∃ Z, t_X0_notesAllow_2 (fu + 1) l (nI k) (r_A σ 20 11) (nI i) = Z := ⟨_, rfl⟩
    have eA := hXA
    rw [t_X0_notesAllow_2] at eA
    try dsimp only at eA
    rw [h4, if_neg (nI_ge (show i < c by omega) (by omega)), t_ai_in (by omega) (by decide), Option.bind_some, t_ai_in (by omega) (by decide), Option.bind_some, a5, a6, t_X0_notesAllow_32, nI_1] at eA
    obtain ⟨XB, hXB⟩ : ∃ Z, t_X12_areNotesSo_2 (fu' + 1) σ (nI k) (nI (2 * i)) = Z := ⟨_, rfl⟩
    have eB := hXB
    rw [t_X12_areNotesSo_2, z_a105, Option.bind_some, h105, show (2 : Int32) * nI c = nI (2 * c) from pk_mul 2 c, if_neg (nI_ge (show 2 * i < 2 * c by omega) (by omega)), i85, t_ai_in (by omega) (by decide), Option.bind_some, z_ribbon hR, Option.bind_some, nI_1, t_ai_in (by omega) (by decide), Option.bind_some, t_X12_areNotesSo_48, z_nI2, show 85 + 2 * i + 1 = 86 + 2 * i by omega, show 2 * i + 2 = 2 * (i + 1) by omega] at eB
    by_cases c1 : r_A σ 20 (85 + 2 * i) = nI k
    · rw [if_pos c1] at eA eB
      by_cases c2 : r_A σ 20 (86 + 2 * i) - 100 = r_A σ 20 11
      · rw [if_pos c2] at eA
        rw [if_pos (z_sub100.mp c2)] at eB
        exact ⟨x, hx, by rw [hXA, ← eA]; exact e1, by rw [hXB, ← eB]; exact e2, e3⟩
      · rw [if_neg c2] at eA
        rw [if_neg (fun e => c2 (z_sub100.mpr e))] at eB
        exact ⟨0, Or.inl rfl, by rw [hXA, ← eA], by rw [hXB, ← eB], fun h => absurd (a5.trans c1) (h i (by omega))⟩
    · rw [if_neg c1] at eA eB
      exact ⟨x, hx, by rw [hXA, ← eA]; exact e1, by rw [hXB, ← eB]; exact e2, e3⟩
theorem z_note {l : g_S} {σ : r_S} {n c k : Nat} (hR : z_R (r_A σ 20) n) (H : z_nt l (r_A σ 20) c) : ∃ x, (x = 0 ∨ x = 1) ∧ t_X0_notesAllow l (nI k) (r_A σ 20 11) = some x ∧ t_X12_areNotesSo σ (nI k) = some x ∧ ((∀ j, j < c → ¬ g_A l 5 j = nI k) → x = 1) :=
  z_noteL hR H c 0 q_fu q_fu (by omega) (by have := H.1; show c < 5000; omega) (by have := H.1; show c < 5000; omega)
/-- behind which HEAVE the last NOTE is: 1 more than that, 0 without any -/
theorem z_lastL {l : g_S} {s : Nat → Int32} {c : Nat} (H : z_nt l s c) : ∀ (m i fu L : Nat), i + m = c → m < fu → L ≤ 61 → (∀ j, j < i → ∃ q, q < L ∧ g_A l 5 j = nI q) → ∃ L', t_X0_lastNoted_4 fu l (nI L + (-1)) (nI i) = some (nI L' + (-1)) ∧ L' ≤ 61 ∧ (∀ j, j < c → ∃ q, q < L' ∧ g_A l 5 j = nI q) := by
  obtain ⟨hc, h4, h105, hA⟩ := H
  have cmp : ∀ L, L < 62 → ∀ q, q < 61 → ((nI L + (-1) < nI q) ↔ L ≤ q) := by decide +kernel
  intro m
  induction m with
  | zero =>
    intro i fu L hi hf hL hq
    obtain ⟨fu, rfl⟩ := Nat.exists_eq_succ_of_ne_zero (show fu ≠ 0 by omega)
    refine ⟨L, ?_, hL, fun j hj => hq j (by omega)⟩
    rw [t_X0_lastNoted_4]
    try dsimp only
    rw [h4, if_pos (nI_le (by omega) (by omega))]
  | succ m ih =>
    intro i fu L hi hf hL hq
    obtain ⟨fu, rfl⟩ := Nat.exists_eq_succ_of_ne_zero (show fu ≠ 0 by omega)
    obtain ⟨a5, ⟨q, hq60, eq⟩, -⟩ := hA i (by omega)
    have e5 := a5.trans eq
    have step : t_X0_lastNoted_4 (fu + 1) l (nI L + (-1)) (nI i) = t_X0_lastNoted_4 fu l (if nI L + (-1) < nI q then nI q else nI L + (-1)) (nI (i + 1)) := by
      rw [t_X0_lastNoted_4]
      try dsimp only
      rw [h4, if_neg (nI_ge (show i < c by omega) (by omega)), t_ai_in (by omega) (by decide), Option.bind_some, e5, nI_1]
    by_cases c1 : L ≤ q
    · rw [if_pos ((cmp L (by omega) q (by omega)).mpr c1), ← pk_m1 q] at step
      obtain ⟨L', a1, a2, a3⟩ := ih (i + 1) fu (q + 1) (by omega) (by omega) (by omega) (fun j hj => by
        by_cases e : j = i
        · rw [e]; exact ⟨q, by omega, e5⟩
        · obtain ⟨q', x, y⟩ := hq j (by omega)
          exact ⟨q', by omega, y⟩)
      exact ⟨L', step.trans a1, a2, a3⟩
    · rw [if_neg (fun e => c1 ((cmp L (by omega) q (by omega)).mp e))] at step
      obtain ⟨L', a1, a2, a3⟩ := ih (i + 1) fu L (by omega) (by omega) hL (fun j hj => by
        by_cases e : j = i
        · rw [e]; exact ⟨q, by omega, e5⟩
        · exact hq j (by omega))
      exact ⟨L', step.trans a1, a2, a3⟩
theorem z_last {l : g_S} {s : Nat → Int32} {c : Nat} (H : z_nt l s c) : ∃ L, t_X0_lastNoted l = some (nI L + (-1)) ∧ L ≤ 61 ∧ (∀ j, j < c → ∃ q, q < L ∧ g_A l 5 j = nI q) :=
  z_lastL H c 0 q_fu 0 (by omega) (by have := H.1; show c < 5000; omega) (by omega) (fun j hj => absurd hj (Nat.not_lt_zero _))
/-- a run from the begin on, by any ROPE and RULE -/
def z_rq (b n q : Nat) (o : g_S) (κ0 κ : Nat → g_S) (h0 h : q_H) (σ : r_S) : Prop := z_q b κ0 κ h0 h ∧ (b + 175 ≤ q ∨ q = b + 136) ∧ g4 q o h ∧ z_R (r_A σ 20) n ∧ z_o o (r_A σ 20) n ∧ z_V (r_A σ 20) n ∧ z_t (κ 11) (r_A σ 20) n ∧ g_P (κ 10) 0 = some q ∧ z_ru b (g_P (κ 10) 1) (r_I σ 21) σ h q ∧ z_pl (κ 10) σ
theorem z_rq_sa {b n q k : Nat} {o : g_S} {κ0 κ : Nat → g_S} {h0 h : q_H} {σ : r_S} {f : Nat → Int32} (hk : 23 < k) (R : z_rq b n q o κ0 κ h0 h σ) : z_rq b n q o κ0 κ h0 h (r_sa σ k f) := by
  obtain ⟨a1, a2, a3, a4, a5, a6, a7, a8, a9, a10⟩ := R
  have e : ∀ j, j < 24 → r_A (r_sa σ k f) j = r_A σ j := fun j hj => z_rAn (by omega)
  refine ⟨a1, a2, a3, ?_, ?_, ?_, ?_, a8, z_ru_fr a9 (fun _ _ => rfl) (e 3 (by decide)) (e 5 (by decide)) (e 6 (by decide)), fun p hp => ?_⟩
  · rw [e 20 (by decide)]; exact a4
  · rw [e 20 (by decide)]; exact a5
  · rw [e 20 (by decide)]; exact a6
  · rw [e 20 (by decide)]; exact a7
  · rw [e 23 (by decide)]; exact a10 p hp
theorem z_rq_go {b n po q c : Nat} {o o' : g_S} {κ0 κ : Nat → g_S} {σ0 σ : r_S} {h0 h : q_H} (X : z_X b n po c o κ0 σ0 h0) (R : z_rq b n q o' κ0 κ h0 h σ) : ∃ h' κ' σ', m_X1_heaveOn h (b + 124) (b + 131) 1 = some h' ∧ t_X12_passes σ = some σ' ∧ z_rq b n q o' κ0 κ' h0 h' σ' ∧ z_eqv σ σ' ∧ (∀ j, j < 10 ∨ 12 + 5 * n ≤ j → r_A σ' 20 j = r_A σ 20 j) ∧ (∀ k, k ≠ 10 → k ≠ 11 → κ' k = κ k) := by
  obtain ⟨a1, a2, a3, a4, a5, a6, a7, a8, a9, a10⟩ := R
  obtain ⟨h', κ', σ', c1, c2, c3, c4, c5, c6, c7, c8, c9, c10, c11, c12, c13, c14⟩ := z_go (m := 1) X a1 a3 a2 a4 a5 a8 a9 a6 a7 a10 (by decide)
  have hn := a4.1
  have same : ∀ j, j < 10 ∨ 52 ≤ j → r_A σ' 20 j = r_A σ 20 j := fun j hj => c8 j (by omega)
  exact ⟨h', κ', σ', c1, c5 rfl, ⟨c2, a2, c14, z_R_ext same a4, z_o_ext same a5, c7, c6, by rw [c12]; exact a8, c13, fun p hp => by rw [c11, c10.2.1 23 (by decide) (by decide)]; exact a10 p hp⟩, c10, c8, c3⟩
/-- what the reference's run changes -/
def z_e31 (r k : Nat) (σ σ' : r_S) : Prop := (∀ j, j ≠ 18 → r_I σ' j = r_I σ j) ∧ (∀ j, j ≠ 20 → j ≠ 24 → j ≠ 31 → r_A σ' j = r_A σ j) ∧ r_D σ' = r_D σ ∧ (∀ j, j < 10 ∨ 52 ≤ j → r_A σ' 20 j = r_A σ 20 j) ∧ (∀ j, j < 61 * r + k ∨ 61 * r + 61 ≤ j → r_A σ' 31 j = r_A σ 31 j)
theorem z_ix61 (r k : Nat) : (61 : Int32) * nI r + nI k = nI (61 * r + k) := by
  rw [show (61 : Int32) = nI 61 from rfl, pk_mul, nI_add]
theorem z_e31_step {r k n : Nat} {σ σ1 σ' : r_S} {v : Int32} (hn : n ≤ 8) (E : z_eqv σ σ1) (h20 : ∀ j, j < 10 ∨ 12 + 5 * n ≤ j → r_A σ1 20 j = r_A σ 20 j) (H : z_e31 r (k + 1) (r_sa σ1 31 (upd (r_A σ1 31) (61 * r + k) v)) σ') (hk : k < 61) : z_e31 r k σ σ' ∧ r_A σ' 31 (61 * r + k) = v := by
  obtain ⟨h1, h2, h3, h4, h5⟩ := H
  rw [z_rA] at h5
  refine ⟨⟨fun j hj => (h1 j hj).trans (E.1 j hj), fun j a c d => (h2 j a c d).trans ((z_rAn d).trans (E.2.1 j a c)), h3.trans E.2.2, fun j hj => ?_, fun j hj => ?_⟩, ?_⟩
  · rw [h4 j hj, z_rAn (by decide)]; exact h20 j (by omega)
  · rw [h5 j (by omega), pk_un (by omega), E.2.1 31 (by decide) (by decide)]
  · rw [h5 _ (by omega), pk_us]
theorem z_zc {x : Int32} (h : x = 0 ∨ x = 1) : q_zc x = some x := if_pos h
