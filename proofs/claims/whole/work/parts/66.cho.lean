/-! ===== L3: what holds of a told ROPE and of a tug ===== -/
/-- places: on each SIDE each of 0 .. once -/
def z_P (s : Nat → Int32) (n : Nat) : Prop := (∀ p, p < n → ∀ c, c < 2 → s (12 + 5 * p) = nI c → ∃ j, j < z_c (z_on s (nI c)) n ∧ s (13 + 5 * p) = nI j) ∧ (∀ c, c < 2 → ∀ j, j < z_c (z_on s (nI c)) n → ∃ p, p < n ∧ s (12 + 5 * p) = nI c ∧ s (13 + 5 * p) = nI j) ∧ (∀ p q, p < n → q < n → s (12 + 5 * p) = s (12 + 5 * q) → s (13 + 5 * p) = s (13 + 5 * q) → p = q)
def z_R (s : Nat → Int32) (n : Nat) : Prop := n ≤ 8 ∧ s 0 = 1 ∧ s 3 = nI n ∧ (∃ l, 1 ≤ l ∧ l ≤ 60 ∧ s 1 = nI l) ∧ nb (s 2) 9 ∧ (-99 ≤ (s 84).toInt ∧ (s 84).toInt ≤ 99) ∧ ∀ p, p < n → nb (s (68 + p)) 1 ∧ (∃ j, 1 ≤ j ∧ j ≤ 40 ∧ s (52 + p) = nI j) ∧ nb (s (76 + p)) 60 ∧ nb (s (60 + p)) 9
def z_V (s : Nat → Int32) (n : Nat) : Prop := (-99 ≤ (s 11).toInt ∧ (s 11).toInt ≤ 99) ∧ (∀ p, p < n → nb (s (12 + 5 * p)) 1 ∧ nb (s (14 + 5 * p)) 60 ∧ nb (s (16 + 5 * p)) 999) ∧ z_P s n
theorem z_mates {s : Nat → Int32} {n : Nat} (hs : ∀ p, p < n → nb (s (12 + 5 * p)) 1) : z_c (z_up s) n = z_c (fun q => z_up s q && z_on s (nI 0) q) n + z_c (fun q => z_up s q && z_on s (nI 1) q) n := by
  rw [z_c_split (z_up s) (z_on s (nI 0)) n]
  congr 1
  refine z_c_ext (fun p hp => ?_)
  obtain ⟨c, hc, ec⟩ := hs p hp
  congr 1
  unfold z_on
  rw [ec]
  rcases (show c = 0 ∨ c = 1 by omega) with rfl | rfl <;> decide
theorem z_chooseN {σ : r_S} {y o t : g_S} {n : Nat} (hR : z_R (r_A σ 20) n) (hV : z_V (r_A σ 20) n) (ho : z_o o (r_A σ 20) n) (ht : z_t t (r_A σ 20) n) (hpl : z_pl y σ) (hfo : r_I σ 21 = -1) (hYP : g_P y 1 = none) :
    ∃ y' L' v' f', t_X1N_chooseEfforts y o t = some y' ∧ t_X12_passes_23 q_fu σ 0 0 = t_X12_passes_52 q_fu (z_w σ L' v' f') 0 0 ∧ (∀ q, q < n → g_A y' 3 q = f' q ∧ z_ee (r_A σ 20) q (f' q)) ∧ g_A y' 2 = g_A y 2 ∧ g_P y' = g_P y := by
  obtain ⟨hn, -, h3, -, -, -, hRp⟩ := hR
  obtain ⟨-, hVp, -⟩ := hV
  have e0 : t_X10_setOnSide t 0 (g_I o 3) = some (nI (z_m (z_on (r_A σ 20) (nI 0)) n)) := by
    rw [ho.1, z_setOnSide hn, z_m_ext (Q := z_on (r_A σ 20) (nI 0)) (fun p hp => by rw [(ht.2.2.2 p hp).1]; rfl)]
  have hm := z_mates (s := r_A σ 20) (fun p hp => (hVp p hp).1)
  have hle := z_c_le (z_up (r_A σ 20)) n
  obtain ⟨y2, hy2, q3, q4, q5⟩ : ∃ y2, t_X1N_chooseEfforts y o t = t_X1N_chooseEfforts_48 q_fu y2 o t (nI 0) ∧ (∀ c, c < 2 → g_A y2 4 c = nI (z_c (fun q => z_up (r_A σ 20) q && z_on (r_A σ 20) (nI c) q) n)) ∧ g_A y2 2 = g_A y 2 ∧ g_P y2 = g_P y := by
    unfold t_X1N_chooseEfforts
    dsimp only
    rw [e0, Option.bind_some, ht.2.2.1, z_and, z_m_and, z_bitc _ (z_m_256 _ hn), Option.bind_some, z_pcm _ hn, show (0 : Int32) = nI 0 from rfl, u_si_in (by decide) (by decide), Option.bind_some, z_bitc _ (z_m_256 _ hn), Option.bind_some, z_pcm _ hn, z_sa_at, t_ai_in (by decide) (by decide), Option.bind_some, pk_us, show (1 : Int32) = nI 1 from rfl, u_si_in (by decide) (by decide), Option.bind_some, z_sa_at]
    refine ⟨_, rfl, fun c hc => ?_, ?_, rfl⟩
    · rw [z_sa_at]
      rcases (show c = 0 ∨ c = 1 by omega) with rfl | rfl
      · rw [pk_un (by decide), pk_us]
      · rw [pk_us, pk_sub (by omega), hm, Nat.add_sub_cancel_left]
    · rw [z_sa_of (by decide), z_sa_of (by decide)]
  obtain ⟨y', L', v', f', e1, e2, e3, e4⟩ := z_loopG hn h3 (fun fu y x => t_X1N_chooseEfforts_48 fu y o t x) (fun z => g_A z 2 = g_A y 2 ∧ g_A z 4 = g_A y2 4 ∧ g_P z = g_P y) (fun fu z _ => by
      show t_X1N_chooseEfforts_48 (fu + 1) z o t (nI n) = some z
      rw [t_X1N_chooseEfforts_48]
      dsimp only
      rw [ho.1, if_pos (nI_le (Nat.le_refl _) (by omega))])
    (fun p hp z L v f fu hz => by
      obtain ⟨z', L', v', x, c1, c2, c3, c4⟩ := z_stepN (y := z) hn hp h3 ho ht (hVp p hp).1 (hVp p hp).2.1 (by rw [hz.1]; exact (hpl p (by omega)).1) (hpl p (by omega)).2 hfo (by rw [hz.2.2]; exact hYP) L v f fu
      exact ⟨z', L', v', x, c1, c2, c3, ⟨c3.2.1.trans hz.1, c3.2.2.1.trans hz.2.1, c3.2.2.2.trans hz.2.2⟩, c4⟩)
    n 0 y2 σ.2.2.1 (r_I σ 18) (r_A σ 24) q_fu q_fu (by omega) (by show n < 5000; omega) (by show n < 5000; omega) ⟨q4, rfl, q5⟩ (fun q hq => absurd hq (Nat.not_lt_zero _))
  rw [z_w_eta] at e2
  exact ⟨y', L', v', f', hy2.trans e1, e2, e3, e4.1, e4.2.2⟩
theorem z_choose {σ : r_S} {y o b t : g_S} {n r : Nat} (hR : z_R (r_A σ 20) n) (hV : z_V (r_A σ 20) n) (ho : z_o o (r_A σ 20) n) (ht : z_t t (r_A σ 20) n) (hpl : z_pl y σ) (hr : r < 6) (hfo : r_I σ 21 = nI r) (hYP : ¬ g_P y 1 = none) (hrl : z_rl b σ r) :
    ∃ y' L' v' f', t_X1_chooseEfforts y o b t = some y' ∧ t_X12_passes_23 q_fu σ 0 0 = t_X12_passes_52 q_fu (z_w σ L' v' f') 0 0 ∧ (∀ q, q < n → g_A y' 3 q = f' q ∧ z_ee (r_A σ 20) q (f' q)) ∧ g_A y' 2 = g_A y 2 ∧ g_P y' = g_P y := by
  obtain ⟨hn, -, h3, -, -, -, hRp⟩ := hR
  obtain ⟨-, hVp, -⟩ := hV
  have e0 : t_X10_setOnSide t 0 (g_I o 3) = some (nI (z_m (z_on (r_A σ 20) (nI 0)) n)) := by
    rw [ho.1, z_setOnSide hn, z_m_ext (Q := z_on (r_A σ 20) (nI 0)) (fun p hp => by rw [(ht.2.2.2 p hp).1]; rfl)]
  have hm := z_mates (s := r_A σ 20) (fun p hp => (hVp p hp).1)
  have hle := z_c_le (z_up (r_A σ 20)) n
  obtain ⟨y2, hy2, q3, q4, q5⟩ : ∃ y2, t_X1_chooseEfforts y o b t = t_X1_chooseEfforts_48 q_fu y2 o b t (nI 0) ∧ (∀ c, c < 2 → g_A y2 4 c = nI (z_c (fun q => z_up (r_A σ 20) q && z_on (r_A σ 20) (nI c) q) n)) ∧ g_A y2 2 = g_A y 2 ∧ g_P y2 = g_P y := by
    unfold t_X1_chooseEfforts
    dsimp only
    rw [e0, Option.bind_some, ht.2.2.1, z_and, z_m_and, z_bitc _ (z_m_256 _ hn), Option.bind_some, z_pcm _ hn, show (0 : Int32) = nI 0 from rfl, u_si_in (by decide) (by decide), Option.bind_some, z_bitc _ (z_m_256 _ hn), Option.bind_some, z_pcm _ hn, z_sa_at, t_ai_in (by decide) (by decide), Option.bind_some, pk_us, show (1 : Int32) = nI 1 from rfl, u_si_in (by decide) (by decide), Option.bind_some, z_sa_at]
    refine ⟨_, rfl, fun c hc => ?_, ?_, rfl⟩
    · rw [z_sa_at]
      rcases (show c = 0 ∨ c = 1 by omega) with rfl | rfl
      · rw [pk_un (by decide), pk_us]
      · rw [pk_us, pk_sub (by omega), hm, Nat.add_sub_cancel_left]
    · rw [z_sa_of (by decide), z_sa_of (by decide)]
  obtain ⟨y', L', v', f', e1, e2, e3, e4⟩ := z_loopG hn h3 (fun fu y x => t_X1_chooseEfforts_48 fu y o b t x) (fun z => g_A z 2 = g_A y 2 ∧ g_A z 4 = g_A y2 4 ∧ g_P z = g_P y) (fun fu z _ => by
      show t_X1_chooseEfforts_48 (fu + 1) z o b t (nI n) = some z
      rw [t_X1_chooseEfforts_48]
      dsimp only
      rw [ho.1, if_pos (nI_le (Nat.le_refl _) (by omega))])
    (fun p hp z L v f fu hz => by
      obtain ⟨z', L', v', x, c1, c2, c3, c4⟩ := z_step (y := z) hn hp h3 ho ht (hVp p hp).1 (hVp p hp).2.1 (by rw [hz.1]; exact (hpl p (by omega)).1) (hpl p (by omega)).2 hr hfo (by rw [hz.2.2]; exact hYP) hrl (fun c hc => by rw [hz.2.1]; exact q3 c hc) L v f fu
      exact ⟨z', L', v', x, c1, c2, c3, ⟨c3.2.1.trans hz.1, c3.2.2.1.trans hz.2.1, c3.2.2.2.trans hz.2.2⟩, c4⟩)
    n 0 y2 σ.2.2.1 (r_I σ 18) (r_A σ 24) q_fu q_fu (by omega) (by show n < 5000; omega) (by show n < 5000; omega) ⟨q4, rfl, q5⟩ (fun q hq => absurd hq (Nat.not_lt_zero _))
  rw [z_w_eta] at e2
  exact ⟨y', L', v', f', hy2.trans e1, e2, e3, e4.1, e4.2.2⟩
