/-! ===== L3: what a HEAVE draws, and how it tires ===== -/
def z_zw (w e tw : Int32) : Int32 := if e ≤ 0 then (if tw ≤ w then w else (if w + 2 < tw then w + 2 else tw)) else w - e
def z_zk (k e : Int32) : Int32 := if e ≤ 0 then k else (if k + e < 999 then k + e else 999)
theorem z_drL {y o t : g_S} {n : Nat} (hn : n ≤ 8) (h3 : g_I o 3 = nI n) : ∀ (m k fu : Nat), k + m = n → m < fu → t_X1_drawn_4 fu y o t (z_sum (fun p => if g_A t 3 p = 1 then g_A o 5 p * g_A y 3 p else 0 - g_A o 5 p * g_A y 3 p) k) (nI k) = some (z_sum (fun p => if g_A t 3 p = 1 then g_A o 5 p * g_A y 3 p else 0 - g_A o 5 p * g_A y 3 p) n) := by
  intro m
  induction m with
  | zero =>
    intro k fu hk hf
    obtain ⟨fu, rfl⟩ := Nat.exists_eq_succ_of_ne_zero (show fu ≠ 0 by omega)
    obtain rfl : k = n := hk
    rw [t_X1_drawn_4]
    try dsimp only
    rw [h3, if_pos (nI_le (Nat.le_refl _) (by omega))]
  | succ m ih =>
    intro k fu hk hf
    obtain ⟨fu, rfl⟩ := Nat.exists_eq_succ_of_ne_zero (show fu ≠ 0 by omega)
    have h := ih (k + 1) fu (by omega) (by omega)
    rw [z_sum] at h
    rw [t_X1_drawn_4]
    try dsimp only
    rw [h3, if_neg (nI_ge (show k < n by omega) (by omega)), t_ai_in (by omega) (by decide), Option.bind_some, t_ai_in (by omega) (by decide), Option.bind_some, t_ai_in (by omega) (by decide), Option.bind_some]
    by_cases c : g_A t 3 k = 1
    · rw [if_pos c, t_X1_drawn_52, nI_1]
      rw [if_pos c] at h
      exact h
    · rw [if_neg c, t_X1_drawn_52, nI_1]
      rw [if_neg c] at h
      exact h
theorem z_drawn {y o t : g_S} {n : Nat} (hn : n ≤ 8) (h3 : g_I o 3 = nI n) : t_X1_drawn y o t = some (z_sum (fun p => if g_A t 3 p = 1 then g_A o 5 p * g_A y 3 p else 0 - g_A o 5 p * g_A y 3 p) n) :=
  z_drL hn h3 n 0 q_fu (by omega) (by show n < 5000; omega)
theorem z_tireL {y o : g_S} {n : Nat} (hn : n ≤ 8) (h3 : g_I o 3 = nI n) : ∀ (m k : Nat) (t : g_S) (fu : Nat), k + m = n → m < fu → ∃ t', t_X1_tire_2 fu y o t (nI k) = some t' ∧ g_I t' = g_I t ∧ g_A t' 3 = g_A t 3 ∧ g_A t' 4 = g_A t 4 ∧ (∀ q, g_A t' 5 q = if k ≤ q ∧ q < n then z_zw (g_A t 5 q) (g_A y 3 q) (g_A o 6 q) else g_A t 5 q) ∧ (∀ q, g_A t' 6 q = if k ≤ q ∧ q < n then z_zk (g_A t 6 q) (g_A y 3 q) else g_A t 6 q) := by
  intro m
  induction m with
  | zero =>
    intro k t fu hk hf
    obtain ⟨fu, rfl⟩ := Nat.exists_eq_succ_of_ne_zero (show fu ≠ 0 by omega)
    obtain rfl : k = n := hk
    refine ⟨t, ?_, rfl, rfl, rfl, fun q => by rw [if_neg (by omega)], fun q => by rw [if_neg (by omega)]⟩
    rw [t_X1_tire_2]
    try dsimp only
    rw [h3, if_pos (nI_le (Nat.le_refl _) (by omega))]
  | succ m ih =>
    intro k t fu hk hf
    obtain ⟨fu, rfl⟩ := Nat.exists_eq_succ_of_ne_zero (show fu ≠ 0 by omega)
    have key : ∃ t1, t_X1_tire_2 (fu + 1) y o t (nI k) = t_X1_tire_2 fu y o t1 (nI (k + 1)) ∧ g_I t1 = g_I t ∧ g_A t1 3 = g_A t 3 ∧ g_A t1 4 = g_A t 4 ∧ (∀ q, g_A t1 5 q = if q = k then z_zw (g_A t 5 q) (g_A y 3 q) (g_A o 6 q) else g_A t 5 q) ∧ (∀ q, g_A t1 6 q = if q = k then z_zk (g_A t 6 q) (g_A y 3 q) else g_A t 6 q) := by
      rw [t_X1_tire_2]
      try dsimp only
      rw [h3, if_neg (nI_ge (show k < n by omega) (by omega)), t_ai_in (by omega) (by decide), Option.bind_some, t_ai_in (by omega) (by decide), Option.bind_some]
      by_cases c : g_A y 3 k ≤ 0
      · rw [if_pos c, t_ai_in (by omega) (by decide), Option.bind_some, Option.bind_some]
        by_cases c2 : g_A o 6 k ≤ g_A t 5 k
        · rw [if_pos c2, t_X1_tire_105, nI_1]
          refine ⟨t, rfl, rfl, rfl, rfl, fun q => ?_, fun q => ?_⟩
          · by_cases e : q = k
            · rw [if_pos e, e, z_zw, if_pos c, if_pos c2]
            · rw [if_neg e]
          · by_cases e : q = k
            · rw [if_pos e, e, z_zk, if_pos c]
            · rw [if_neg e]
        · rw [if_neg c2, u_si_in (by omega) (by decide), Option.bind_some, t_X1_tire_105, nI_1]
          refine ⟨_, rfl, rfl, z_sa_of (by decide), z_sa_of (by decide), fun q => ?_, fun q => ?_⟩
          · rw [z_sa_at]
            by_cases e : q = k
            · rw [if_pos e, e, pk_us, z_zw, if_pos c, if_neg c2]
            · rw [if_neg e, pk_un e]
          · rw [z_sa_of (by decide)]
            by_cases e : q = k
            · rw [if_pos e, e, z_zk, if_pos c]
            · rw [if_neg e]
      · rw [if_neg c, Option.bind_some, u_si_in (by omega) (by decide), Option.bind_some, z_sa_of (by decide), t_ai_in (by omega) (by decide), Option.bind_some, Option.bind_some, u_si_in (by omega) (by decide), Option.bind_some, t_X1_tire_105, nI_1]
        refine ⟨_, rfl, rfl, by rw [z_sa_of (by decide), z_sa_of (by decide)], by rw [z_sa_of (by decide), z_sa_of (by decide)], fun q => ?_, fun q => ?_⟩
        · rw [z_sa_of (by decide), z_sa_at]
          by_cases e : q = k
          · rw [if_pos e, e, pk_us, z_zw, if_neg c]
          · rw [if_neg e, pk_un e]
        · rw [z_sa_at, z_sa_of (by decide)]
          by_cases e : q = k
          · rw [if_pos e, e, pk_us, z_zk, if_neg c]
          · rw [if_neg e, pk_un e]
    obtain ⟨t1, a1, a2, a3, a4, a5, a6⟩ := key
    obtain ⟨t', b1, b2, b3, b4, b5, b6⟩ := ih (k + 1) t1 fu (by omega) (by omega)
    refine ⟨t', a1.trans b1, b2.trans a2, b3.trans a3, b4.trans a4, fun q => ?_, fun q => ?_⟩
    · rw [b5, a5]
      by_cases e : q = k
      · rw [if_neg (by omega), if_pos e, if_pos (by omega)]
      · rw [if_neg e]
        by_cases e2 : k + 1 ≤ q ∧ q < n
        · rw [if_pos e2, if_pos (by omega)]
        · rw [if_neg e2, if_neg (by omega)]
    · rw [b6, a6]
      by_cases e : q = k
      · rw [if_neg (by omega), if_pos e, if_pos (by omega)]
      · rw [if_neg e]
        by_cases e2 : k + 1 ≤ q ∧ q < n
        · rw [if_pos e2, if_pos (by omega)]
        · rw [if_neg e2, if_neg (by omega)]
/-! the reference -/
theorem z_upd_eta (s : Nat → Int32) (j : Nat) : upd s j (s j) = s := by
  funext q
  by_cases e : q = j
  · rw [e, pk_us]
  · rw [pk_un e]
theorem z_rA (σ : r_S) (k : Nat) (f : Nat → Int32) : r_A (r_sa σ k f) k = f := by
  show va_up σ.2.1 k f k = f
  exact va_up_at _ _ _
theorem z_rAn {σ : r_S} {k j : Nat} {f : Nat → Int32} (h : j ≠ k) : r_A (r_sa σ k f) j = r_A σ j := by
  show va_up σ.2.1 k f j = σ.2.1 j
  exact va_up_of h
theorem z_raa (σ : r_S) (k : Nat) (f g : Nat → Int32) : r_sa (r_sa σ k f) k g = r_sa σ k g := by
  unfold r_sa
  simp only [bx_uu]
theorem z_ra_eta (σ : r_S) (k : Nat) : r_sa σ k (r_A σ k) = σ := by
  unfold r_sa r_A
  rw [va_up_eta]
/-- a write into what is said -/
theorem z_s20 {σ : r_S} {s : Nat → Int32} {j : Nat} {x : Int32} (h : j < 106) : t_si 106 (r_sa σ 20 s) 20 (nI j) x = some (r_sa σ 20 (upd s j x)) := by
  rw [t_si_in h (by decide), z_rA, z_raa]
def z_tr (s : Nat → Int32) (p : Nat) (e : Int32) : Nat → Int32 := upd (upd s (16 + 5 * p) (z_zk (s (16 + 5 * p)) e)) (14 + 5 * p) (z_zw (s (14 + 5 * p)) e (s (76 + p)))
theorem z_tires {σ : r_S} {s : Nat → Int32} {p : Nat} {x : Int32} (hp : p < 8) (hk : nb (s (16 + 5 * p)) 999) (htw : nb (s (76 + p)) 60) (he : z_ee s p x) : t_X12_tires (r_sa σ 20 s) (nI p) x = some (r_sa σ 20 (z_tr s p x)) := by
  obtain ⟨a, ha, ea⟩ := hk
  obtain ⟨tw, htw, etw⟩ := htw
  obtain ⟨e, w, he3, hew, hw, ew, rfl⟩ := he
  have k76 : ∀ f : Nat → Int32, t_ai 106 f (76 + nI p) = some (f (76 + p)) := fun f => by rw [z_k76, t_ai_in (by omega) (by decide)]
  have w1 : m_X12_within (nI a + nI e) 0 999 = some (z_zk (nI a) (nI e)) := by
    unfold m_X12_within z_zk
    rw [nI_add, if_pos (nI_pos' (by omega))]
    by_cases h0 : e = 0
    · rw [h0, if_pos (show nI 0 ≤ (0 : Int32) by decide), if_pos (show nI (a + 0) ≤ (999 : Int32) from nI_le (b := 999) (by omega) (by decide))]
      rfl
    · rw [if_neg (show ¬ nI e ≤ (0 : Int32) from nI_ge (a := 0) (by omega) (by omega))]
      by_cases h1 : a + e < 999
      · rw [if_pos (show nI (a + e) ≤ (999 : Int32) from nI_le (b := 999) (by omega) (by decide)), if_pos (show nI (a + e) < (999 : Int32) from nI_lt (b := 999) h1 (by decide))]
      · rw [if_neg (show ¬ nI (a + e) < (999 : Int32) from nI_nlt (b := 999) (by omega) (by omega))]
        by_cases h2 : a + e = 999
        · rw [h2, if_pos (by decide)]
          rfl
        · rw [if_neg (show ¬ nI (a + e) ≤ (999 : Int32) from nI_ge (a := 999) (by omega) (by omega))]
  unfold t_X12_tires
  rw [z_workOf hp, Option.bind_some, z_rA, ea, w1, Option.bind_some, z_i4, z_s20 (by omega), Option.bind_some]
  unfold z_tr
  rw [ea, ew, etw]
  by_cases h0 : e = 0
  · subst h0
    rw [if_pos (show nI 0 ≤ (0 : Int32) by decide), z_windOf hp, Option.bind_some, k76, Option.bind_some, z_rA, pk_un (by omega), pk_un (by omega), ew, etw]
    unfold z_zw
    rw [if_pos (show nI 0 ≤ (0 : Int32) by decide)]
    by_cases h1 : tw ≤ w
    · rw [if_pos (nI_le h1 (by omega)), if_pos (nI_le h1 (by omega))]
      have e2 := z_upd_eta (upd s (16 + 5 * p) (z_zk (nI a) (nI 0))) (14 + 5 * p)
      rw [pk_un (by omega), ew] at e2
      rw [e2]
    · rw [if_neg (nI_ge (show w < tw by omega) (by omega)), if_neg (nI_ge (show w < tw by omega) (by omega)), Option.bind_some, Option.bind_some, z_nI2]
      have w2 : m_X12_within (nI (w + 2)) 0 (nI tw) = some (if nI (w + 2) < nI tw then nI (w + 2) else nI tw) := by
        unfold m_X12_within
        rw [if_pos (nI_pos' (by omega))]
        by_cases h2 : w + 2 < tw
        · rw [if_pos (nI_le (by omega) (by omega)), if_pos (nI_lt h2 (by omega))]
        · rw [if_neg (nI_nlt (by omega) (by omega))]
          by_cases h3 : w + 2 = tw
          · rw [h3, if_pos (nI_le (Nat.le_refl _) (by omega))]
          · rw [if_neg (nI_ge (show tw < w + 2 by omega) (by omega))]
      rw [w2, Option.bind_some, z_i2, z_s20 (by omega)]
      rfl
  · rw [if_neg (show ¬ nI e ≤ (0 : Int32) from nI_ge (a := 0) (by omega) (by omega)), z_i2, t_ai_in (by omega) (by decide), Option.bind_some, z_rA, pk_un (by omega), ew, z_s20 (by omega)]
    unfold z_zw
    rw [if_neg (show ¬ nI e ≤ (0 : Int32) from nI_ge (a := 0) (by omega) (by omega))]
    rfl
def z_td (s f : Nat → Int32) : Nat → Nat → Int32
  | 0 => s
  | k + 1 => upd (z_tr (z_td s f k) k (f k)) (15 + 5 * k) 1
theorem z_td_out {s f : Nat → Int32} : ∀ {k j : Nat}, j < 12 ∨ 12 + 5 * k ≤ j → z_td s f k j = s j
  | 0, _, _ => rfl
  | k + 1, j, h => by
    rw [z_td, pk_un (by omega), z_tr, pk_un (by omega), pk_un (by omega)]
    exact z_td_out (by omega)
theorem z_td_in {s f : Nat → Int32} : ∀ {k p : Nat}, p < k → k ≤ 8 → z_td s f k (12 + 5 * p) = s (12 + 5 * p) ∧ z_td s f k (13 + 5 * p) = s (13 + 5 * p) ∧ z_td s f k (14 + 5 * p) = z_zw (s (14 + 5 * p)) (f p) (s (76 + p)) ∧ z_td s f k (15 + 5 * p) = 1 ∧ z_td s f k (16 + 5 * p) = z_zk (s (16 + 5 * p)) (f p)
  | 0, _, h, _ => absurd h (Nat.not_lt_zero _)
  | k + 1, p, h, h8 => by
    rw [z_td, z_tr]
    by_cases e : p = k
    · subst e
      rw [pk_un (by omega), pk_un (by omega), pk_un (by omega), pk_un (by omega), pk_un (by omega), pk_un (by omega), pk_un (by omega), pk_us, pk_us, pk_un (by omega), pk_un (by omega), pk_us]
      rw [z_td_out (by omega), z_td_out (by omega), z_td_out (by omega), z_td_out (by omega), z_td_out (by omega)]
      exact ⟨rfl, rfl, rfl, rfl, rfl⟩
    · have ih := z_td_in (s := s) (f := f) (k := k) (p := p) (by omega) (by omega)
      have hr : ∀ j, 12 + 5 * p ≤ j → j ≤ 16 + 5 * p → upd (upd (upd (z_td s f k) (16 + 5 * k) (z_zk (z_td s f k (16 + 5 * k)) (f k))) (14 + 5 * k) (z_zw (z_td s f k (14 + 5 * k)) (f k) (z_td s f k (76 + k)))) (15 + 5 * k) 1 j = z_td s f k j := fun j h1 h2 => by
        rw [pk_un (by omega), pk_un (by omega), pk_un (by omega)]
      rw [hr _ (by omega) (by omega), hr _ (by omega) (by omega), hr _ (by omega) (by omega), hr _ (by omega) (by omega), hr _ (by omega) (by omega)]
      exact ih
def z_dr (s f : Nat → Int32) : Nat → Int32 := z_sum (fun p => (if s (12 + 5 * p) = 1 then (1 : Int32) else -1) * s (52 + p) * f p)
theorem z_p52L {σ : r_S} {s f : Nat → Int32} {n : Nat} (hn : n ≤ 8) (h3 : s 3 = nI n) (hf : r_A σ 24 = f) (hk : ∀ p, p < n → nb (s (16 + 5 * p)) 999 ∧ nb (s (76 + p)) 60 ∧ z_ee s p (f p)) : ∀ (m k fu : Nat), k + m = n → m < fu → t_X12_passes_52 fu (r_sa σ 20 (z_td s f k)) (z_dr s f k) (nI k) = t_X12_passes_52 1 (r_sa σ 20 (z_td s f n)) (z_dr s f n) (nI n) := by
  intro m
  induction m with
  | zero =>
    intro k fu hkn hfu
    obtain ⟨fu, rfl⟩ := Nat.exists_eq_succ_of_ne_zero (show fu ≠ 0 by omega)
    obtain rfl : k = n := hkn
    rw [t_X12_passes_52, t_X12_passes_52, z_rA, z_a3, Option.bind_some, Option.bind_some, z_td_out (by omega), h3, if_pos (nI_le (Nat.le_refl _) (by omega)), if_pos (nI_le (Nat.le_refl _) (by omega))]
  | succ m ih =>
    intro k fu hkn hfu
    obtain ⟨fu, rfl⟩ := Nat.exists_eq_succ_of_ne_zero (show fu ≠ 0 by omega)
    obtain ⟨b1, b2, b3⟩ := hk k (by omega)
    have ih := ih (k + 1) fu (by omega) (by omega)
    have step : ∀ c : Int32, t_X12_passes_77 (t_X12_passes_52 fu) (r_sa σ 20 (z_td s f k)) (nI k) c (z_dr s f k) = t_X12_passes_52 fu (r_sa σ 20 (z_td s f (k + 1))) (z_dr s f k + c * s (52 + k) * f k) (nI (k + 1)) := by
      intro c
      unfold t_X12_passes_77
      rw [z_k52, t_ai_in (by omega) (by decide), Option.bind_some, z_rAn (by decide), t_ai_in (by omega) (by decide), Option.bind_some, Option.bind_some, hf, z_tires (by omega) (by rw [z_td_out (by omega)]; exact b1) (by rw [z_td_out (by omega)]; exact b2) (by
          obtain ⟨e, w, q1, q2, q3, q4, q5⟩ := b3
          exact ⟨e, w, q1, q2, q3, by rw [z_td_out (by omega)]; exact q4, q5⟩), Option.bind_some, z_i3, z_s20 (by omega), Option.bind_some, nI_1, z_rA, z_td_out (by omega)]
      rfl
    rw [t_X12_passes_52, z_rA, z_a3, Option.bind_some, z_td_out (by omega), h3, if_neg (nI_ge (show k < n by omega) (by omega)), z_sideOf (by omega), Option.bind_some, z_rA, z_td_out (by omega)]
    have hd : z_dr s f (k + 1) = z_dr s f k + (if s (12 + 5 * k) = 1 then (1 : Int32) else -1) * s (52 + k) * f k := rfl
    rw [hd] at ih
    by_cases c : s (12 + 5 * k) = 1
    · rw [if_pos c, step]
      rw [if_pos c] at ih
      exact ih
    · rw [if_neg c, step]
      rw [if_neg c] at ih
      exact ih
theorem z_neg (a b : Int32) : (-1 : Int32) * a * b = 0 - a * b := by
  rw [Int32.zero_sub, show (-1 : Int32) = -(1 : Int32) from by decide, Int32.neg_mul, Int32.one_mul, Int32.neg_mul]
