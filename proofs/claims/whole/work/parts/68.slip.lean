/-! ===== L3: who slips ===== -/
/-- the first down the rope of those of whom Q holds, among 0 .. k - 1 -/
def z_sl (Q : Nat → Prop) (pl : Nat → Int32) (k : Nat) (r : Option Nat) : Prop := match r with
  | none => ∀ q, q < k → ¬ Q q
  | some p => p < k ∧ Q p ∧ ∀ q, q < k → Q q → pl p ≤ pl q
def z_en (r : Option Nat) : Int32 := match r with
  | none => -1
  | some p => nI p
def z_bt (r : Option Nat) : Int32 := match r with
  | none => 0
  | some p => (1 : Int32) <<< (nI p &&& 31)
theorem z_slipL {y o t : g_S} {n : Nat} {c thr : Int32} (hn : n ≤ 8) (h3 : g_I o 3 = nI n) : ∀ (m k : Nat) (r : Option Nat) (fu : Nat), k + m = n → m < fu → z_sl (fun q => g_A t 3 q = c ∧ g_A o 7 q < thr) (g_A t 4) k r → ∃ r', z_sl (fun q => g_A t 3 q = c ∧ g_A o 7 q < thr) (g_A t 4) n r' ∧ t_X1_slipped_38 fu y o t c thr (z_en r) (nI k) = some (z_bt r') := by
  intro m
  induction m with
  | zero =>
    intro k r fu hk hf hr
    obtain ⟨fu, rfl⟩ := Nat.exists_eq_succ_of_ne_zero (show fu ≠ 0 by omega)
    obtain rfl : k = n := hk
    refine ⟨r, hr, ?_⟩
    rw [t_X1_slipped_38]
    try dsimp only
    rw [h3, if_pos (nI_le (Nat.le_refl _) (by omega))]
    cases r with
    | none => rw [if_pos (show z_en none = -1 from rfl)]; rfl
    | some p =>
      have hp : p < k := hr.1
      rw [if_neg (fun e => nI_pos (n := p) (by omega) (by rw [show nI p = (-1 : Int32) from e]; decide))]
      rfl
  | succ m ih =>
    intro k r fu hk hf hr
    obtain ⟨fu, rfl⟩ := Nat.exists_eq_succ_of_ne_zero (show fu ≠ 0 by omega)
    -- it goes on with one of two
    have go : ∀ r1, z_sl (fun q => g_A t 3 q = c ∧ g_A o 7 q < thr) (g_A t 4) (k + 1) r1 → t_X1_slipped_38 (fu + 1) y o t c thr (z_en r) (nI k) = t_X1_slipped_38 fu y o t c thr (z_en r1) (nI (k + 1)) → ∃ r', z_sl (fun q => g_A t 3 q = c ∧ g_A o 7 q < thr) (g_A t 4) n r' ∧ t_X1_slipped_38 (fu + 1) y o t c thr (z_en r) (nI k) = some (z_bt r') := by
      intro r1 h1 h2
      obtain ⟨r', a, b⟩ := ih (k + 1) r1 fu (by omega) (by omega) h1
      exact ⟨r', a, h2.trans b⟩
    -- who is not asked changes nothing
    have stay : ¬ (g_A t 3 k = c ∧ g_A o 7 k < thr) → z_sl (fun q => g_A t 3 q = c ∧ g_A o 7 q < thr) (g_A t 4) (k + 1) r := by
      intro hn'
      cases r with
      | none =>
        intro q hq
        by_cases e : q = k
        · rw [e]; exact hn'
        · exact hr q (by omega)
      | some p =>
        refine ⟨by have := hr.1; omega, hr.2.1, fun q hq hQ => ?_⟩
        by_cases e : q = k
        · rw [e] at hQ; exact absurd hQ hn'
        · exact hr.2.2 q (by omega) hQ
    by_cases c1 : g_A t 3 k = c
    · by_cases c2 : thr ≤ g_A o 7 k
      · refine go r (stay (fun h => Int32.not_le.mpr h.2 c2)) ?_
        rw [t_X1_slipped_38]
        try dsimp only
        rw [h3, if_neg (nI_ge (show k < n by omega) (by omega)), t_ai_in (by omega) (by decide), Option.bind_some, if_pos c1, t_ai_in (by omega) (by decide), Option.bind_some, if_pos c2, t_X1_slipped_80, t_X1_slipped_81, if_pos rfl, t_X1_slipped_115, nI_1]
      · have hQ : g_A t 3 k = c ∧ g_A o 7 k < thr := ⟨c1, Int32.not_le.mp c2⟩
        obtain ⟨XA, hA⟩ : ∃ X, t_X1_slipped_38 (fu + 1) y o t c thr (z_en r) (nI k) = X := ⟨_, rfl⟩
        have eA := hA
        rw [t_X1_slipped_38] at eA
        try dsimp only at eA
        rw [h3, if_neg (nI_ge (show k < n by omega) (by omega)), t_ai_in (by omega) (by decide), Option.bind_some, if_pos c1, t_ai_in (by omega) (by decide), Option.bind_some, if_neg c2, t_X1_slipped_81, if_neg (by decide)] at eA
        replace eA := hA.trans eA.symm
        cases r with
        | none =>
          refine go (some k) ⟨by omega, hQ, fun q hq hq2 => ?_⟩ ?_
          · by_cases e : q = k
            · rw [e]; exact Int32.le_refl _
            · exact absurd hq2 (hr q (by omega))
          · rw [eA, if_pos (show z_en none = -1 from rfl), t_X1_slipped_111, t_X1_slipped_115, nI_1]
            rfl
        | some p =>
          have hp : p < k := hr.1
          rw [if_neg (fun e => nI_pos (n := p) (by omega) (by rw [show nI p = (-1 : Int32) from e]; decide)), t_ai_in (by omega) (by decide), Option.bind_some, show z_en (some p) = nI p from rfl, t_ai_in (by omega) (by decide), Option.bind_some] at eA
          by_cases c3 : g_A t 4 p ≤ g_A t 4 k
          · refine go (some p) ⟨by omega, hr.2.1, fun q hq hq2 => ?_⟩ ?_
            · by_cases e : q = k
              · rw [e]; exact c3
              · exact hr.2.2 q (by omega) hq2
            · rw [show z_en (some p) = nI p from rfl, eA, if_pos c3, t_X1_slipped_115, nI_1]
          · refine go (some k) ⟨by omega, hQ, fun q hq hq2 => ?_⟩ ?_
            · by_cases e : q = k
              · rw [e]; exact Int32.le_refl _
              · exact Int32.le_trans (Int32.le_of_lt (Int32.not_le.mp c3)) (hr.2.2 q (by omega) hq2)
            · rw [show z_en (some p) = nI p from rfl, eA, if_neg c3, t_X1_slipped_111, t_X1_slipped_115, nI_1]
              rfl
    · refine go r (stay (fun h => c1 h.1)) ?_
      rw [t_X1_slipped_38]
      try dsimp only
      rw [h3, if_neg (nI_ge (show k < n by omega) (by omega)), t_ai_in (by omega) (by decide), Option.bind_some, if_neg c1, t_X1_slipped_80, t_X1_slipped_81, if_pos rfl, t_X1_slipped_115, nI_1]
/-! the reference -/
theorem z_atL {σ : r_S} {n : Nat} {c x : Int32} (hn : n ≤ 8) (h3 : r_A σ 20 3 = nI n) : ∀ (m k fu : Nat), k + m = n → m < fu → (∃ p, k ≤ p ∧ p < n ∧ r_A σ 20 (12 + 5 * p) = c ∧ r_A σ 20 (13 + 5 * p) = x) → ∃ p, p < n ∧ r_A σ 20 (12 + 5 * p) = c ∧ r_A σ 20 (13 + 5 * p) = x ∧ t_X12_atPlace_2 fu σ c x (nI k) = some (nI p) := by
  intro m
  induction m with
  | zero =>
    intro k fu hk hf ⟨p, h1, h2, _⟩
    omega
  | succ m ih =>
    intro k fu hk hf ⟨p, h1, h2, h4, h5⟩
    obtain ⟨fu, rfl⟩ := Nat.exists_eq_succ_of_ne_zero (show fu ≠ 0 by omega)
    rw [t_X12_atPlace_2, z_a3, Option.bind_some, h3, if_neg (nI_ge (show k < n by omega) (by omega)), z_sideOf (by omega), Option.bind_some]
    by_cases c1 : r_A σ 20 (12 + 5 * k) = c
    · rw [if_pos c1, z_placeOf (by omega), Option.bind_some]
      by_cases c2 : r_A σ 20 (13 + 5 * k) = x
      · rw [if_pos c2]
        exact ⟨k, by omega, c1, c2, rfl⟩
      · rw [if_neg c2, t_X12_atPlace_32, nI_1]
        exact ih (k + 1) fu (by omega) (by omega) ⟨p, by
          have : p ≠ k := fun e => c2 (by rw [← e]; exact h5)
          omega, h2, h4, h5⟩
    · rw [if_neg c1, t_X12_atPlace_32, nI_1]
      exact ih (k + 1) fu (by omega) (by omega) ⟨p, by
        have : p ≠ k := fun e => c1 (by rw [← e]; exact h4)
        omega, h2, h4, h5⟩
def z_dn (s : Nat → Int32) (r : Option Nat) : Nat → Int32 := match r with
  | none => s
  | some p => upd s (15 + 5 * p) 0
theorem z_slipRL {σ : r_S} {s : Nat → Int32} {n c : Nat} {much : Int32} (hn : n ≤ 8) (h3 : s 3 = nI n) (hc : c < 2) (hP : z_P s n) : ∀ (m j fu : Nat), j + m = z_c (z_on s (nI c)) n → m < fu → (∀ q, q < n → (s (12 + 5 * q) = nI c ∧ s (60 + q) < much + s 2 - 5) → ∃ i, j ≤ i ∧ i < 8 ∧ s (13 + 5 * q) = nI i) →
    ∃ r, z_sl (fun q => s (12 + 5 * q) = nI c ∧ s (60 + q) < much + s 2 - 5) (fun q => s (13 + 5 * q)) n r ∧ t_X12_slips_12 fu (r_sa σ 20 s) (nI c) much (nI (z_c (z_on s (nI c)) n)) (nI j) = some (r_sa σ 20 (z_dn s r)) := by
  have hle := z_c_le (z_on s (nI c)) n
  intro m
  induction m with
  | zero =>
    intro j fu hj hf hq
    obtain ⟨fu, rfl⟩ := Nat.exists_eq_succ_of_ne_zero (show fu ≠ 0 by omega)
    refine ⟨none, fun q hqn hQ => ?_, ?_⟩
    · obtain ⟨i, hi, hi8, ei⟩ := hq q hqn hQ
      obtain ⟨i', hi', ei'⟩ := hP.1 q hqn c hc hQ.1
      have := (nI_eq (a := i) (b := i') (by omega) (by omega)).mp (ei.symm.trans ei')
      omega
    · rw [t_X12_slips_12, if_pos (nI_le (by omega) (by omega))]
      rfl
  | succ m ih =>
    intro j fu hj hf hq
    obtain ⟨fu, rfl⟩ := Nat.exists_eq_succ_of_ne_zero (show fu ≠ 0 by omega)
    obtain ⟨p0, a1, a2, a3⟩ := hP.2.1 c hc j (by omega)
    obtain ⟨p, b1, b2, b3, b4⟩ := z_atL (σ := r_sa σ 20 s) (c := nI c) (x := nI j) hn (by rw [z_rA]; exact h3) n 0 q_fu (by omega) (by show n < 5000; omega) ⟨p0, by omega, a1, by rw [z_rA]; exact a2, by rw [z_rA]; exact a3⟩
    rw [z_rA] at b2 b3
    have eat : t_X12_atPlace (r_sa σ 20 s) (nI c) (nI j) = some (nI p) := b4
    have k60 : ∀ f : Nat → Int32, t_ai 106 f (60 + nI p) = some (f (60 + p)) := fun f => by rw [z_k60, t_ai_in (by omega) (by decide)]
    obtain ⟨XA, hA⟩ : ∃ X, t_X12_slips_12 (fu + 1) (r_sa σ 20 s) (nI c) much (nI (z_c (z_on s (nI c)) n)) (nI j) = X := ⟨_, rfl⟩
    have eA := hA
    rw [t_X12_slips_12, if_neg (nI_ge (show j < z_c (z_on s (nI c)) n by omega) (by omega)), eat, Option.bind_some, z_rA, k60, Option.bind_some, z_a2, Option.bind_some] at eA
    replace eA := hA.trans eA.symm
    by_cases c1 : s (60 + p) < much + s 2 - 5
    · refine ⟨some p, ⟨b1, ⟨b2, c1⟩, fun q hqn hQ => ?_⟩, ?_⟩
      · obtain ⟨i, hi, hi8, ei⟩ := hq q hqn hQ
        show s (13 + 5 * p) ≤ s (13 + 5 * q)
        rw [b3, ei]
        exact nI_le hi (by omega)
      · rw [eA, if_pos c1, z_i3, z_s20 (by omega)]
        rfl
    · obtain ⟨r, e1, e2⟩ := ih (j + 1) fu (by omega) (by omega) (fun q hqn hQ => by
        obtain ⟨i, hi, hi8, ei⟩ := hq q hqn hQ
        refine ⟨i, ?_, hi8, ei⟩
        have : i ≠ j := fun e => by
          rw [e] at ei
          have := hP.2.2 q p hqn b1 (hQ.1.trans b2.symm) (ei.trans b3.symm)
          rw [this] at hQ
          exact c1 hQ.2
        omega)
      refine ⟨r, e1, ?_⟩
      rw [eA, if_neg c1, nI_1]
      exact e2
theorem z_slips {σ : r_S} {s : Nat → Int32} {n c : Nat} {much : Int32} (hn : n ≤ 8) (h3 : s 3 = nI n) (hc : c < 2) (hP : z_P s n) : ∃ r, z_sl (fun q => s (12 + 5 * q) = nI c ∧ s (60 + q) < much + s 2 - 5) (fun q => s (13 + 5 * q)) n r ∧ t_X12_slips (r_sa σ 20 s) (nI c) much = some (r_sa σ 20 (z_dn s r)) := by
  have hle := z_c_le (z_on s (nI c)) n
  obtain ⟨r, e1, e2⟩ := z_slipRL (σ := σ) (much := much) hn h3 hc hP (z_c (z_on s (nI c)) n) 0 q_fu (by omega) (by show _ < 5000; omega) (fun q hq hQ => by
    obtain ⟨i, hi, ei⟩ := hP.1 q hq c hc hQ.1
    exact ⟨i, by omega, by omega, ei⟩)
  refine ⟨r, e1, ?_⟩
  unfold t_X12_slips
  rw [z_onesOn hn (by rw [z_rA]; exact h3), Option.bind_some, z_rA, z_bits _ (z_m_256 _ hn), Option.bind_some, z_pcm _ hn]
  exact e2
/-- there is one such at most -/
theorem z_sl_one {Q : Nat → Prop} {pl : Nat → Int32} {n : Nat} {r r' : Option Nat} (inj : ∀ p q, p < n → q < n → Q p → Q q → pl p = pl q → p = q) (h : z_sl Q pl n r) (h' : z_sl Q pl n r') : r = r' := by
  cases r with
  | none =>
    cases r' with
    | none => rfl
    | some p => exact absurd h'.2.1 (h p h'.1)
  | some p =>
    cases r' with
    | none => exact absurd h.2.1 (h' p h.1)
    | some q => rw [inj p q h.1 h'.1 h.2.1 h'.2.1 (Int32.le_antisymm (h.2.2 q h'.1 h'.2.1) (h'.2.2 p h.1 h.2.1))]
theorem z_sl_ext {Q Q' : Nat → Prop} {pl pl' : Nat → Int32} {n : Nat} {r : Option Nat} (hQ : ∀ q, q < n → (Q q ↔ Q' q)) (hp : ∀ q, q < n → pl q = pl' q) (h : z_sl Q pl n r) : z_sl Q' pl' n r := by
  cases r with
  | none => exact fun q hq hq2 => h q hq ((hQ q hq).mpr hq2)
  | some p => exact ⟨h.1, (hQ p h.1).mp h.2.1, fun q hq hq2 => by rw [← hp p h.1, ← hp q hq]; exact h.2.2 q hq ((hQ q hq).mpr hq2)⟩
