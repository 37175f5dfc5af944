/-! ===== L3: HEAVES, one behind the other ===== -/
theorem z_over {t o : g_S} {σ : r_S} (h0 : g_I t 0 = r_A σ 20 11) (h1 : g_I o 0 = r_A σ 20 1) : t_X10_isOver t (g_I o 0) = t_X12_isOver σ := by
  unfold t_X10_isOver t_X12_isOver
  try dsimp only
  rw [z_a11, Option.bind_some, z_a1, Option.bind_some, h0, h1]
  by_cases c : r_A σ 20 1 ≤ r_A σ 20 11
  · rw [if_pos c, if_pos c]
  · rw [if_neg c, if_neg c, Option.bind_some, Option.bind_some]
theorem z_over01 (σ : r_S) : t_X12_isOver σ = some 0 ∨ t_X12_isOver σ = some 1 := by
  unfold t_X12_isOver
  rw [z_a11, Option.bind_some, z_a1, Option.bind_some]
  by_cases c : r_A σ 20 1 ≤ r_A σ 20 11
  · rw [if_pos c]; exact Or.inr rfl
  · rw [if_neg c, Option.bind_some, Option.bind_some]
    by_cases c2 : 0 - r_A σ 20 1 < r_A σ 20 11
    · rw [if_pos c2]; exact Or.inl rfl
    · rw [if_neg c2]; exact Or.inr rfl
/-- nothing but what HEAVES change -/
def z_eqv (σ σ' : r_S) : Prop := (∀ k, k ≠ 18 → r_I σ' k = r_I σ k) ∧ (∀ k, k ≠ 20 → k ≠ 24 → r_A σ' k = r_A σ k) ∧ r_D σ' = r_D σ
theorem z_eqv_refl (σ : r_S) : z_eqv σ σ := ⟨fun _ _ => rfl, fun _ _ _ => rfl, rfl⟩
theorem z_eqv_trans {a b c : r_S} (h1 : z_eqv a b) (h2 : z_eqv b c) : z_eqv a c := ⟨fun k hk => (h2.1 k hk).trans (h1.1 k hk), fun k h h' => (h2.2.1 k h h').trans (h1.2.1 k h h'), h2.2.2.trans h1.2.2⟩
theorem z_eqv_w (σ : r_S) (L : Nat → Nat → Int64) (v : Int32) (f s : Nat → Int32) : z_eqv σ (r_sa (z_w σ L v f) 20 s) := ⟨fun k hk => z_wI (L := L) (f := f) hk, fun k h h' => (z_rAn h).trans (z_wA h'), rfl⟩
theorem z_R_ext {s s' : Nat → Int32} {n : Nat} (h : ∀ j, j < 10 ∨ 52 ≤ j → s' j = s j) (hR : z_R s n) : z_R s' n := by
  obtain ⟨a, b, c, d, e, f, g⟩ := hR
  refine ⟨a, ?_, ?_, ?_, ?_, ?_, fun p hp => ?_⟩
  · rw [h 0 (by omega)]; exact b
  · rw [h 3 (by omega)]; exact c
  · rw [h 1 (by omega)]; exact d
  · rw [h 2 (by omega)]; exact e
  · rw [h 84 (by omega)]; exact f
  · rw [h (68 + p) (by omega), h (52 + p) (by omega), h (76 + p) (by omega), h (60 + p) (by omega)]; exact g p hp
theorem z_o_ext {o : g_S} {s s' : Nat → Int32} {n : Nat} (h : ∀ j, j < 10 ∨ 52 ≤ j → s' j = s j) (ho : z_o o s n) : z_o o s' n := by
  obtain ⟨a, b, c, d, e⟩ := ho
  refine ⟨a, ?_, ?_, ?_, fun p hp => ?_⟩
  · rw [h 1 (by omega)]; exact b
  · rw [h 2 (by omega)]; exact c
  · rw [h 84 (by omega)]; exact d
  · rw [h (68 + p) (by omega), h (52 + p) (by omega), h (76 + p) (by omega), h (60 + p) (by omega)]; exact e p hp
theorem z_V_ext {s s' : Nat → Int32} {n : Nat} (h : ∀ j, j ≠ 10 → s' j = s j) (hV : z_V s n) : z_V s' n := by
  obtain ⟨a, b, c⟩ := hV
  refine ⟨?_, fun p hp => ?_, z_P_ext (fun p hp => ⟨h _ (by omega), h _ (by omega)⟩) c⟩
  · rw [h 11 (by decide)]; exact a
  · rw [h (12 + 5 * p) (by omega), h (14 + 5 * p) (by omega), h (16 + 5 * p) (by omega)]; exact b p hp
theorem z_hv1N {σ : r_S} {y o t : g_S} {n : Nat} (hR : z_R (r_A σ 20) n) (hV : z_V (r_A σ 20) n) (ho : z_o o (r_A σ 20) n) (ht : z_t t (r_A σ 20) n) (hpl : z_pl y σ) (hY0 : ¬ g_P y 0 = none) (hfo : r_I σ 21 = -1) (hYP : g_P y 1 = none) :
    ∃ y' t' σ', (∀ fu x2 x3, ¬ x2 ≤ x3 → t_X1N_heaveOn_2 (fu + 1) y o t x2 x3 = t_X1N_heaveOn_2 fu y' o t' x2 (x3 + 1)) ∧ t_X12_passes σ = some σ' ∧ z_t t' (r_A σ' 20) n ∧ z_V (r_A σ' 20) n ∧ (∀ j, j < 10 ∨ 12 + 5 * n ≤ j → r_A σ' 20 j = r_A σ 20 j) ∧ r_A σ' 20 10 = r_A σ 20 10 + 1 ∧ z_eqv σ σ' ∧ g_A y' 2 = g_A y 2 ∧ g_P y' = g_P y := by
  have ov := z_over (t := t) (o := o) (σ := σ) ht.1 ho.2.1
  rcases z_over01 σ with o1 | o1
  · obtain ⟨y1, L, v, f, e1, e2, e3, e4, e5⟩ := z_chooseN (y := y) (t := t) hR hV ho ht hpl hfo hYP
    have hA : r_A (z_w σ L v f) 20 = r_A σ 20 := z_wA (by decide)
    obtain ⟨r8, t2, r17, s', c1, c2, c3, c4, c5, c6, c7, c8⟩ := z_core (σ := z_w σ L v f) (y := y1) hA z_w24 hR hV ho ht e3
    refine ⟨y1, _, r_sa (z_w σ L v f) 20 s', fun fu x2 x3 hx => ?_, ?_, by rw [z_rA]; exact c5, by rw [z_rA]; exact c6, fun j hj => by rw [z_rA]; exact c7 j hj, by rw [z_rA]; exact c8, z_eqv_w _ _ _ _ _, e4, e5⟩
    · rw [t_X1N_heaveOn_2, if_neg hx]
      try dsimp only
      rw [if_neg hY0, ov, o1, Option.bind_some, if_pos rfl, e1, Option.bind_some, c1, Option.bind_some, c2, Option.bind_some, z_everyone hR.1 ho.1, Option.bind_some]
      have c3' := c3
      unfold z_clp at c3'
      rw [c3', Option.bind_some, t_X1N_heaveOn_89]
      try dsimp only
      rw [show ∀ (u : g_S) (a b : Int32), g_I (g_si (g_si u 0 a) 2 b) 1 = g_I u 1 from fun u a b => (z_si_In (by decide)).trans (z_si_In (by decide))]
      rfl
    · unfold t_X12_passes
      rw [o1, Option.bind_some, if_pos rfl, e2, c4]
  · refine ⟨y, g_si t 1 (g_I t 1 + 1), r_sa σ 20 (upd (r_A σ 20) 10 (r_A σ 20 10 + 1)), fun fu x2 x3 hx => ?_, ?_, ?_, ?_, fun j hj => ?_, ?_, ?_, rfl, rfl⟩
    · rw [t_X1N_heaveOn_2, if_neg hx]
      try dsimp only
      rw [if_neg hY0, ov, o1, Option.bind_some, if_neg (by decide), t_X1N_heaveOn_89]
    · unfold t_X12_passes
      rw [o1, Option.bind_some, if_neg (by decide), z_a10, Option.bind_some]
      conv => lhs; arg 1; arg 2; rw [← z_ra_eta σ 20]
      rw [z_s20J (J := 10) (j := 10) rfl (by decide)]
      rfl
    · rw [z_rA]
      refine ⟨by rw [z_si_In (by decide), pk_un (by decide)]; exact ht.1, by rw [z_si_I, pk_us, ht.2.1], ?_, fun p hp => ?_⟩
      · rw [z_si_In (by decide), ht.2.2.1, z_m_ext (fun p hp => ?_)]
        unfold z_up
        rw [pk_un (by omega)]
      · rw [z_si_A, pk_un (by omega), pk_un (by omega), pk_un (by omega), pk_un (by omega)]
        exact ht.2.2.2 p hp
    · rw [z_rA]
      exact z_V_ext (fun j hj => pk_un hj) hV
    · rw [z_rA, pk_un (by omega)]
    · rw [z_rA, pk_us]
    · exact ⟨fun k _ => rfl, fun k h _ => z_rAn h, rfl⟩
theorem z_hvmN {o : g_S} {n : Nat} : ∀ (m i fu fu' : Nat) (y t : g_S) (σ : r_S), i + m < 2 ^ 31 → m < fu → m < fu' → z_R (r_A σ 20) n → z_V (r_A σ 20) n → z_o o (r_A σ 20) n → z_t t (r_A σ 20) n → z_pl y σ → ¬ g_P y 0 = none → r_I σ 21 = -1 → g_P y 1 = none →
    ∃ y' t' σ', t_X1N_heaveOn_2 fu y o t (nI (i + m)) (nI i) = some (y', t') ∧ t_X12_passesAll_2 fu' σ (nI (i + m)) (nI i) = some σ' ∧ (m = 1 → t_X12_passes σ = some σ') ∧ z_t t' (r_A σ' 20) n ∧ z_V (r_A σ' 20) n ∧ (∀ j, j < 10 ∨ 12 + 5 * n ≤ j → r_A σ' 20 j = r_A σ 20 j) ∧ r_A σ' 20 10 = r_A σ 20 10 + nI m ∧ z_eqv σ σ' ∧ g_A y' 2 = g_A y 2 ∧ g_P y' = g_P y := by
  intro m
  induction m with
  | zero =>
    intro i fu fu' y t σ hi hf hf' hR hV ho ht hpl hY0 hfo hYP
    obtain ⟨fu, rfl⟩ := Nat.exists_eq_succ_of_ne_zero (show fu ≠ 0 by omega)
    obtain ⟨fu', rfl⟩ := Nat.exists_eq_succ_of_ne_zero (show fu' ≠ 0 by omega)
    refine ⟨y, t, σ, ?_, ?_, by omega, ht, hV, fun _ _ => rfl, ?_, z_eqv_refl _, rfl, rfl⟩
    · rw [t_X1N_heaveOn_2, if_pos (nI_le (by omega) (by omega))]
    · rw [t_X12_passesAll_2, if_pos (nI_le (by omega) (by omega))]
    · exact (Int32.add_zero _).symm
  | succ m ih =>
    intro i fu fu' y t σ hi hf hf' hR hV ho ht hpl hY0 hfo hYP
    obtain ⟨fu, rfl⟩ := Nat.exists_eq_succ_of_ne_zero (show fu ≠ 0 by omega)
    obtain ⟨fu', rfl⟩ := Nat.exists_eq_succ_of_ne_zero (show fu' ≠ 0 by omega)
    obtain ⟨y1, t1, σ1, a1, a2, a3, a4, a5, a6, a7, a8, a9⟩ := z_hv1N hR hV ho ht hpl hY0 hfo hYP
    have h8 := hR.1
    have same : ∀ j, j < 10 ∨ 52 ≤ j → r_A σ1 20 j = r_A σ 20 j := fun j hj => a5 j (by omega)
    obtain ⟨y', t', σ', b1, b2, b3, b4, b5, b6, b7, b8, b9, b10⟩ := ih (i + 1) fu fu' y1 t1 σ1 (by omega) (by omega) (by omega) (z_R_ext same hR) a4 (z_o_ext same ho) a3 (fun p hp => by rw [a8, a7.2.1 23 (by decide) (by decide)]; exact hpl p hp) (by rw [a9]; exact hY0) (by rw [a7.1 21 (by decide)]; exact hfo) (by rw [a9]; exact hYP)
    rw [show i + 1 + m = i + (m + 1) by omega] at b1 b2
    refine ⟨y', t', σ', ?_, ?_, ?_, b4, b5, fun j hj => (b6 j hj).trans (a5 j hj), ?_, z_eqv_trans a7 b8, b9.trans a8, b10.trans a9⟩
    · rw [a1 fu _ _ (nI_ge (show i < i + (m + 1) by omega) (by omega)), nI_1]
      exact b1
    · rw [t_X12_passesAll_2, if_neg (nI_ge (show i < i + (m + 1) by omega) (by omega)), a2, Option.bind_some, nI_1]
      exact b2
    · intro e
      obtain rfl : m = 0 := by omega
      obtain ⟨fu', rfl⟩ := Nat.exists_eq_succ_of_ne_zero (show fu' ≠ 0 by omega)
      rw [t_X12_passesAll_2, if_pos (nI_le (by omega) (by omega))] at b2
      rw [a2]
      exact b2
    · rw [b7, a6, Int32.add_assoc, show (1 : Int32) = nI 1 from rfl, nI_add, Nat.add_comm 1 m]
theorem z_hv1 {σ : r_S} {y o b t : g_S} {n r : Nat} (hR : z_R (r_A σ 20) n) (hV : z_V (r_A σ 20) n) (ho : z_o o (r_A σ 20) n) (ht : z_t t (r_A σ 20) n) (hpl : z_pl y σ) (hY0 : ¬ g_P y 0 = none) (hr : r < 6) (hfo : r_I σ 21 = nI r) (hYP : ¬ g_P y 1 = none) (hrl : z_rl b σ r) :
    ∃ y' t' σ', (∀ fu x2 x3, ¬ x2 ≤ x3 → t_X1_heaveOn_2 (fu + 1) y o b t x2 x3 = t_X1_heaveOn_2 fu y' o b t' x2 (x3 + 1)) ∧ t_X12_passes σ = some σ' ∧ z_t t' (r_A σ' 20) n ∧ z_V (r_A σ' 20) n ∧ (∀ j, j < 10 ∨ 12 + 5 * n ≤ j → r_A σ' 20 j = r_A σ 20 j) ∧ r_A σ' 20 10 = r_A σ 20 10 + 1 ∧ z_eqv σ σ' ∧ g_A y' 2 = g_A y 2 ∧ g_P y' = g_P y := by
  have ov := z_over (t := t) (o := o) (σ := σ) ht.1 ho.2.1
  rcases z_over01 σ with o1 | o1
  · obtain ⟨y1, L, v, f, e1, e2, e3, e4, e5⟩ := z_choose (y := y) (t := t) hR hV ho ht hpl hr hfo hYP hrl
    have hA : r_A (z_w σ L v f) 20 = r_A σ 20 := z_wA (by decide)
    obtain ⟨r8, t2, r17, s', c1, c2, c3, c4, c5, c6, c7, c8⟩ := z_core (σ := z_w σ L v f) (y := y1) hA z_w24 hR hV ho ht e3
    refine ⟨y1, _, r_sa (z_w σ L v f) 20 s', fun fu x2 x3 hx => ?_, ?_, by rw [z_rA]; exact c5, by rw [z_rA]; exact c6, fun j hj => by rw [z_rA]; exact c7 j hj, by rw [z_rA]; exact c8, z_eqv_w _ _ _ _ _, e4, e5⟩
    · rw [t_X1_heaveOn_2, if_neg hx]
      try dsimp only
      rw [if_neg hY0, ov, o1, Option.bind_some, if_pos rfl, e1, Option.bind_some, c1, Option.bind_some, c2, Option.bind_some, z_everyone hR.1 ho.1, Option.bind_some]
      have c3' := c3
      unfold z_clp at c3'
      rw [c3', Option.bind_some, t_X1_heaveOn_89]
      try dsimp only
      rw [show ∀ (u : g_S) (a b : Int32), g_I (g_si (g_si u 0 a) 2 b) 1 = g_I u 1 from fun u a b => (z_si_In (by decide)).trans (z_si_In (by decide))]
      rfl
    · unfold t_X12_passes
      rw [o1, Option.bind_some, if_pos rfl, e2, c4]
  · refine ⟨y, g_si t 1 (g_I t 1 + 1), r_sa σ 20 (upd (r_A σ 20) 10 (r_A σ 20 10 + 1)), fun fu x2 x3 hx => ?_, ?_, ?_, ?_, fun j hj => ?_, ?_, ?_, rfl, rfl⟩
    · rw [t_X1_heaveOn_2, if_neg hx]
      try dsimp only
      rw [if_neg hY0, ov, o1, Option.bind_some, if_neg (by decide), t_X1_heaveOn_89]
    · unfold t_X12_passes
      rw [o1, Option.bind_some, if_neg (by decide), z_a10, Option.bind_some]
      conv => lhs; arg 1; arg 2; rw [← z_ra_eta σ 20]
      rw [z_s20J (J := 10) (j := 10) rfl (by decide)]
      rfl
    · rw [z_rA]
      refine ⟨by rw [z_si_In (by decide), pk_un (by decide)]; exact ht.1, by rw [z_si_I, pk_us, ht.2.1], ?_, fun p hp => ?_⟩
      · rw [z_si_In (by decide), ht.2.2.1, z_m_ext (fun p hp => ?_)]
        unfold z_up
        rw [pk_un (by omega)]
      · rw [z_si_A, pk_un (by omega), pk_un (by omega), pk_un (by omega), pk_un (by omega)]
        exact ht.2.2.2 p hp
    · rw [z_rA]
      exact z_V_ext (fun j hj => pk_un hj) hV
    · rw [z_rA, pk_un (by omega)]
    · rw [z_rA, pk_us]
    · exact ⟨fun k _ => rfl, fun k h _ => z_rAn h, rfl⟩
theorem z_hvm {o b : g_S} {n r : Nat} (hr : r < 6) : ∀ (m i fu fu' : Nat) (y t : g_S) (σ : r_S), i + m < 2 ^ 31 → m < fu → m < fu' → z_R (r_A σ 20) n → z_V (r_A σ 20) n → z_o o (r_A σ 20) n → z_t t (r_A σ 20) n → z_pl y σ → ¬ g_P y 0 = none → r_I σ 21 = nI r → ¬ g_P y 1 = none → z_rl b σ r →
    ∃ y' t' σ', t_X1_heaveOn_2 fu y o b t (nI (i + m)) (nI i) = some (y', t') ∧ t_X12_passesAll_2 fu' σ (nI (i + m)) (nI i) = some σ' ∧ (m = 1 → t_X12_passes σ = some σ') ∧ z_t t' (r_A σ' 20) n ∧ z_V (r_A σ' 20) n ∧ (∀ j, j < 10 ∨ 12 + 5 * n ≤ j → r_A σ' 20 j = r_A σ 20 j) ∧ r_A σ' 20 10 = r_A σ 20 10 + nI m ∧ z_eqv σ σ' ∧ g_A y' 2 = g_A y 2 ∧ g_P y' = g_P y := by
  intro m
  induction m with
  | zero =>
    intro i fu fu' y t σ hi hf hf' hR hV ho ht hpl hY0 hfo hYP hrl
    obtain ⟨fu, rfl⟩ := Nat.exists_eq_succ_of_ne_zero (show fu ≠ 0 by omega)
    obtain ⟨fu', rfl⟩ := Nat.exists_eq_succ_of_ne_zero (show fu' ≠ 0 by omega)
    refine ⟨y, t, σ, ?_, ?_, by omega, ht, hV, fun _ _ => rfl, ?_, z_eqv_refl _, rfl, rfl⟩
    · rw [t_X1_heaveOn_2, if_pos (nI_le (by omega) (by omega))]
    · rw [t_X12_passesAll_2, if_pos (nI_le (by omega) (by omega))]
    · exact (Int32.add_zero _).symm
  | succ m ih =>
    intro i fu fu' y t σ hi hf hf' hR hV ho ht hpl hY0 hfo hYP hrl
    obtain ⟨fu, rfl⟩ := Nat.exists_eq_succ_of_ne_zero (show fu ≠ 0 by omega)
    obtain ⟨fu', rfl⟩ := Nat.exists_eq_succ_of_ne_zero (show fu' ≠ 0 by omega)
    obtain ⟨y1, t1, σ1, a1, a2, a3, a4, a5, a6, a7, a8, a9⟩ := z_hv1 hR hV ho ht hpl hY0 hr hfo hYP hrl
    have h8 := hR.1
    have same : ∀ j, j < 10 ∨ 52 ≤ j → r_A σ1 20 j = r_A σ 20 j := fun j hj => a5 j (by omega)
    obtain ⟨y', t', σ', b1, b2, b3, b4, b5, b6, b7, b8, b9, b10⟩ := ih (i + 1) fu fu' y1 t1 σ1 (by omega) (by omega) (by omega) (z_R_ext same hR) a4 (z_o_ext same ho) a3 (fun p hp => by rw [a8, a7.2.1 23 (by decide) (by decide)]; exact hpl p hp) (by rw [a9]; exact hY0) (by rw [a7.1 21 (by decide)]; exact hfo) (by rw [a9]; exact hYP) (z_rl_ext hrl (fun j _ => by rw [a7.2.1 3 (by decide) (by decide)]) (fun j _ => by rw [a7.2.1 5 (by decide) (by decide)]) (by rw [a7.2.1 6 (by decide) (by decide)]))
    rw [show i + 1 + m = i + (m + 1) by omega] at b1 b2
    refine ⟨y', t', σ', ?_, ?_, ?_, b4, b5, fun j hj => (b6 j hj).trans (a5 j hj), ?_, z_eqv_trans a7 b8, b9.trans a8, b10.trans a9⟩
    · rw [a1 fu _ _ (nI_ge (show i < i + (m + 1) by omega) (by omega)), nI_1]
      exact b1
    · rw [t_X12_passesAll_2, if_neg (nI_ge (show i < i + (m + 1) by omega) (by omega)), a2, Option.bind_some, nI_1]
      exact b2
    · intro e
      obtain rfl : m = 0 := by omega
      obtain ⟨fu', rfl⟩ := Nat.exists_eq_succ_of_ne_zero (show fu' ≠ 0 by omega)
      rw [t_X12_passesAll_2, if_pos (nI_le (by omega) (by omega))] at b2
      rw [a2]
      exact b2
    · rw [b7, a6, Int32.add_assoc, show (1 : Int32) = nI 1 from rfl, nI_add, Nat.add_comm 1 m]
