/-! ===== L3: a HEAVE on both sides ===== -/
def z_clp (v : Int32) : Int32 := if (-99 : Int32) < (if v < (99 : Int32) then v else (99 : Int32)) then (if v < (99 : Int32) then v else (99 : Int32)) else (-99 : Int32)
theorem z_clip (v : Int32) : m_X12_within v (-99) 99 = some (z_clp v) ∧ -99 ≤ (z_clp v).toInt ∧ (z_clp v).toInt ≤ 99 := by
  have h99 : (99 : Int32).toInt = 99 := by decide
  have hm : (-99 : Int32).toInt = -99 := by decide
  unfold m_X12_within z_clp
  by_cases a : v.toInt < 99
  · rw [if_pos (show v < (99 : Int32) by rw [Int32.lt_iff_toInt_lt, h99]; exact a)]
    by_cases b : -99 < v.toInt
    · rw [if_pos (show (-99 : Int32) < v by rw [Int32.lt_iff_toInt_lt, hm]; exact b), if_pos (show (-99 : Int32) ≤ v by rw [Int32.le_iff_toInt_le, hm]; omega), if_pos (show v ≤ (99 : Int32) by rw [Int32.le_iff_toInt_le, h99]; omega)]
      exact ⟨rfl, by omega, by omega⟩
    · rw [if_neg (show ¬ (-99 : Int32) < v by rw [Int32.lt_iff_toInt_lt, hm]; exact b)]
      refine ⟨?_, by rw [hm]; omega, by rw [hm]; omega⟩
      by_cases e : v.toInt = -99
      · have ev : v = -99 := Int32.toInt_inj.mp (by rw [e, hm])
        rw [ev]
        decide
      · rw [if_neg (show ¬ (-99 : Int32) ≤ v by rw [Int32.le_iff_toInt_le, hm]; omega)]
  · rw [if_neg (show ¬ v < (99 : Int32) by rw [Int32.lt_iff_toInt_lt, h99]; exact a), if_pos (show (-99 : Int32) < (99 : Int32) by decide)]
    refine ⟨?_, by rw [h99]; omega, by rw [h99]; omega⟩
    rw [if_pos (show (-99 : Int32) ≤ v by rw [Int32.le_iff_toInt_le, hm]; omega)]
    by_cases e : v.toInt = 99
    · have ev : v = 99 := Int32.toInt_inj.mp (by rw [e, h99])
      rw [ev]
      decide
    · rw [if_neg (show ¬ v ≤ (99 : Int32) by rw [Int32.le_iff_toInt_le, h99]; omega)]
theorem z_P_ext {s s' : Nat → Int32} {n : Nat} (h : ∀ p, p < n → s' (12 + 5 * p) = s (12 + 5 * p) ∧ s' (13 + 5 * p) = s (13 + 5 * p)) (hP : z_P s n) : z_P s' n := by
  have hc : ∀ c, z_c (z_on s' c) n = z_c (z_on s c) n := fun c => z_c_ext (fun p hp => by unfold z_on; rw [(h p hp).1])
  obtain ⟨p1, p2, p3⟩ := hP
  refine ⟨fun p hp c hcc e => ?_, fun c hcc j hj => ?_, fun p q hp hq e1 e2 => ?_⟩
  · rw [hc, (h p hp).2]
    exact p1 p hp c hcc ((h p hp).1.symm.trans e)
  · rw [hc] at hj
    obtain ⟨p, a, b, d⟩ := p2 c hcc j hj
    exact ⟨p, a, (h p a).1.trans b, (h p a).2.trans d⟩
  · rw [(h p hp).1, (h q hq).1] at e1
    rw [(h p hp).2, (h q hq).2] at e2
    exact p3 p q hp hq e1 e2
theorem z_zw_nb {s : Nat → Int32} {p : Nat} {x tw : Int32} (he : z_ee s p x) (ht : nb tw 60) : nb (z_zw (s (14 + 5 * p)) x tw) 60 := by
  obtain ⟨e, w, he3, hew, hw, ew, rfl⟩ := he
  obtain ⟨u, hu, rfl⟩ := ht
  unfold z_zw
  rw [ew]
  by_cases h0 : e = 0
  · rw [h0, if_pos (by decide)]
    by_cases h1 : nI u ≤ nI w
    · rw [if_pos h1]; exact ⟨w, hw, rfl⟩
    · rw [if_neg h1, z_nI2]
      by_cases h2 : nI (w + 2) < nI u
      · rw [if_pos h2]
        have := (nI_ltI (by omega) (by omega)).mp h2
        exact ⟨w + 2, by omega, rfl⟩
      · rw [if_neg h2]; exact ⟨u, hu, rfl⟩
  · rw [if_neg (show ¬ nI e ≤ (0 : Int32) from nI_ge (a := 0) (by omega) (by omega)), pk_sub hew]
    exact ⟨w - e, by omega, rfl⟩
theorem z_zk_nb {s : Nat → Int32} {p : Nat} {x k : Int32} (he : z_ee s p x) (hk : nb k 999) : nb (z_zk k x) 999 := by
  obtain ⟨e, w, he3, hew, hw, ew, rfl⟩ := he
  obtain ⟨a, ha, rfl⟩ := hk
  unfold z_zk
  by_cases h0 : nI e ≤ (0 : Int32)
  · rw [if_pos h0]; exact ⟨a, ha, rfl⟩
  · rw [if_neg h0, nI_add]
    by_cases h1 : nI (a + e) < (999 : Int32)
    · rw [if_pos h1]
      have := (nI_ltI (a := a + e) (b := 999) (by omega) (by decide)).mp h1
      exact ⟨a + e, by omega, rfl⟩
    · rw [if_neg h1]; exact ⟨999, by omega, rfl⟩
theorem z_s20J {σ : r_S} {s : Nat → Int32} {J : Int32} {j : Nat} {x : Int32} (e : J = nI j) (h : j < 106) : t_si 106 (r_sa σ 20 s) 20 J x = some (r_sa σ 20 (upd s j x)) := by
  rw [e]
  exact z_s20 h
theorem z_si_I (t : g_S) (k : Nat) (x : Int32) : g_I (g_si t k x) k = x := by
  show va_up t.1 k x k = x
  exact va_up_at _ _ _
theorem z_si_In {t : g_S} {k j : Nat} {x : Int32} (h : j ≠ k) : g_I (g_si t k x) j = g_I t j := by
  show va_up t.1 k x j = t.1 j
  exact va_up_of h
theorem z_si_A (t : g_S) (k : Nat) (x : Int32) : g_A (g_si t k x) = g_A t := rfl
theorem z_allnon : ∀ n, n < 9 → nI (2 ^ n - 1) &&& ((0 : Int32) ^^^ (-1)) = nI (2 ^ n - 1) := by decide +kernel
/-- a quarter is more than 0, less, or 0 -/
theorem z_tri (q : Int32) : (q = 0) ∨ (¬ q = 0 ∧ q ≤ 0 ∧ ¬ 0 ≤ q) ∨ (¬ q = 0 ∧ ¬ q ≤ 0 ∧ 0 ≤ q) := by
  have hz : (0 : Int32).toInt = 0 := by decide
  by_cases a : q = 0
  · exact Or.inl a
  · have h : q.toInt ≠ 0 := fun e => a (Int32.toInt_inj.mp (by rw [e, hz]))
    by_cases b : q.toInt < 0
    · exact Or.inr (Or.inl ⟨a, by rw [Int32.le_iff_toInt_le, hz]; omega, by rw [Int32.le_iff_toInt_le, hz]; omega⟩)
    · exact Or.inr (Or.inr ⟨a, by rw [Int32.le_iff_toInt_le, hz]; omega, by rw [Int32.le_iff_toInt_le, hz]; omega⟩)
/-- all behind the EFFORTS -/
theorem z_core {σ : r_S} {y o t : g_S} {s f : Nat → Int32} {n : Nat} (hs : r_A σ 20 = s) (hf : r_A σ 24 = f) (hR : z_R s n) (hV : z_V s n) (ho : z_o o s n) (ht : z_t t s n) (hy : ∀ q, q < n → g_A y 3 q = f q ∧ z_ee s q (f q)) :
    ∃ r8 t2 r17 s', t_X1_drawn y o t = some r8 ∧ t_X1_tire y o t = some t2 ∧ t_X1_slipped y o (g_si t2 0 (z_clp (g_I t2 0 + r8 / 4))) (r8 / 4) = some r17 ∧ t_X12_passes_52 q_fu σ 0 0 = some (r_sa σ 20 s') ∧ z_t (g_si (g_si (g_si t2 0 (z_clp (g_I t2 0 + r8 / 4))) 2 (nI (2 ^ n - 1) &&& (r17 ^^^ (-1)))) 1 (g_I t2 1 + 1)) s' n ∧ z_V s' n ∧ (∀ j, j < 10 ∨ 12 + 5 * n ≤ j → s' j = s j) ∧ s' 10 = s 10 + 1 := by
  obtain ⟨hn, -, h3, -, hm9, -, hRp⟩ := hR
  obtain ⟨-, hVp, hP⟩ := hV
  obtain ⟨o3, o0, o1, o2, oA⟩ := ho
  obtain ⟨t0, t1, t2', tA⟩ := ht
  have hdr : z_sum (fun p => if g_A t 3 p = 1 then g_A o 5 p * g_A y 3 p else 0 - g_A o 5 p * g_A y 3 p) n = z_dr s f n := by
    unfold z_dr
    refine z_sum_ext (fun p hp => ?_)
    rw [(tA p hp).1, (oA p hp).2.1, (hy p hp).1]
    by_cases c : s (12 + 5 * p) = 1
    · rw [if_pos c, if_pos c, Int32.one_mul]
    · rw [if_neg c, if_neg c, z_neg]
  obtain ⟨t2, a1, a2, a3, a4, a5, a6⟩ := z_tireL (y := y) (o := o) hn o3 n 0 t q_fu (by omega) (by show n < 5000; omega)
  have hI : ∀ k, g_I t2 k = g_I t k := fun k => by rw [a2]
  -- the reference's loop
  have eL := z_p52L (σ := σ) (s := s) (f := f) hn h3 hf (fun p hp => ⟨(hVp p hp).2.2, (hRp p hp).2.2.1, (hy p hp).2⟩) n 0 q_fu (by omega) (by show n < 5000; omega)
  have e00 : r_sa σ 20 (z_td s f 0) = σ := by
    show r_sa σ 20 s = σ
    rw [← hs, z_ra_eta]
  rw [e00, show z_dr s f 0 = 0 from rfl] at eL
  generalize hq : z_dr s f n / 4 = q at *
  obtain ⟨k1, k2, k3⟩ := z_clip (s 11 + q)
  -- what is said ahead of the slipping
  have e52 : t_X12_passes_52 1 (r_sa σ 20 (z_td s f n)) (z_dr s f n) (nI n) = (if q ≤ 0 then t_X12_passes_164 (r_sa σ 20 (upd (z_td s f n) 11 (z_clp (s 11 + q)))) q else (t_X12_slips (r_sa σ 20 (upd (z_td s f n) 11 (z_clp (s 11 + q)))) 0 q).bind fun σ22 => t_X12_passes_164 σ22 q) := by
    rw [t_X12_passes_52, z_rA, z_a3, Option.bind_some, z_td_out (by omega), h3, if_pos (nI_le (Nat.le_refl _) (by omega)), z_a11, Option.bind_some, z_td_out (by omega), hq, k1, Option.bind_some, z_s20J (J := 11) (j := 11) rfl (by decide), Option.bind_some]
  have u3 : ∀ j, j ≠ 11 → (j < 12 ∨ 12 + 5 * n ≤ j) → upd (z_td s f n) 11 (z_clp (s 11 + q)) j = s j := fun j h1 h2 => by rw [pk_un h1, z_td_out h2]
  have uP : z_P (upd (z_td s f n) 11 (z_clp (s 11 + q))) n := z_P_ext (fun p hp => by
    rw [pk_un (by omega), pk_un (by omega)]
    exact ⟨(z_td_in hp hn).1, (z_td_in hp hn).2.1⟩) hP
  have e175 : ∀ s1 : Nat → Int32, t_X12_passes_175 (r_sa σ 20 s1) = some (r_sa σ 20 (upd s1 10 (s1 10 + 1))) := fun s1 => by
    unfold t_X12_passes_175
    rw [z_a10, Option.bind_some, z_rA, z_s20J (J := 10) (j := 10) rfl (by decide)]
    rfl
  -- who slips, on both sides
  have slip : ∀ (c : Nat) (much : Int32), c < 2 → ∃ r, t_X1_slipped_38 q_fu y o (g_si t2 0 (z_clp (s 11 + q))) (nI c) (much + s 2 - 5) (-1) 0 = some (z_bt r) ∧ t_X12_slips (r_sa σ 20 (upd (z_td s f n) 11 (z_clp (s 11 + q)))) (nI c) much = some (r_sa σ 20 (z_dn (upd (z_td s f n) 11 (z_clp (s 11 + q))) r)) ∧ (∀ p, r = some p → p < n) := by
    intro c much hc
    obtain ⟨r, b1, b2⟩ := z_slips (σ := σ) (much := much) hn (by rw [u3 3 (by decide) (by omega)]; exact h3) hc uP
    obtain ⟨r', d1, d2⟩ := z_slipL (y := y) (o := o) (t := g_si t2 0 (z_clp (s 11 + q))) (c := nI c) (thr := much + s 2 - 5) hn o3 n 0 none q_fu (by omega) (by show n < 5000; omega) (fun q hq => absurd hq (Nat.not_lt_zero _))
    have hQ : ∀ p, p < n → ((g_A (g_si t2 0 (z_clp (s 11 + q))) 3 p = nI c ∧ g_A o 7 p < much + s 2 - 5) ↔ (upd (z_td s f n) 11 (z_clp (s 11 + q)) (12 + 5 * p) = nI c ∧ upd (z_td s f n) 11 (z_clp (s 11 + q)) (60 + p) < much + upd (z_td s f n) 11 (z_clp (s 11 + q)) 2 - 5)) := fun p hp => by
      rw [z_si_A, a3, (tA p hp).1, (oA p hp).2.2.2, pk_un (show 12 + 5 * p ≠ 11 by omega), (z_td_in hp hn).1, u3 (60 + p) (by omega) (by omega), u3 2 (by decide) (by omega)]
    have d1' := z_sl_ext hQ (pl' := fun p => upd (z_td s f n) 11 (z_clp (s 11 + q)) (13 + 5 * p)) (fun p hp => by rw [z_si_A, a4, (tA p hp).2.1, pk_un (show 13 + 5 * p ≠ 11 by omega), (z_td_in hp hn).2.1]) d1
    have er := z_sl_one (fun p p' hp hp' h1 h2 h3 => uP.2.2 p p' hp hp' (h1.1.trans h2.1.symm) h3) d1' b1
    rw [er] at d2
    exact ⟨r, d2, b2, fun p e => by rw [e] at b1; exact b1.1⟩
  -- the end, whoever slips
  have fin : ∀ r : Option Nat, (∀ p, r = some p → p < n) → t_X1_slipped y o (g_si t2 0 (z_clp (g_I t2 0 + q))) q = some (z_bt r) → t_X12_passes_52 1 (r_sa σ 20 (z_td s f n)) (z_dr s f n) (nI n) = t_X12_passes_175 (r_sa σ 20 (z_dn (upd (z_td s f n) 11 (z_clp (s 11 + q))) r)) → ∃ r8 t2 r17 s', t_X1_drawn y o t = some r8 ∧ t_X1_tire y o t = some t2 ∧ t_X1_slipped y o (g_si t2 0 (z_clp (g_I t2 0 + r8 / 4))) (r8 / 4) = some r17 ∧ t_X12_passes_52 q_fu σ 0 0 = some (r_sa σ 20 s') ∧ z_t (g_si (g_si (g_si t2 0 (z_clp (g_I t2 0 + r8 / 4))) 2 (nI (2 ^ n - 1) &&& (r17 ^^^ (-1)))) 1 (g_I t2 1 + 1)) s' n ∧ z_V s' n ∧ (∀ j, j < 10 ∨ 12 + 5 * n ≤ j → s' j = s j) ∧ s' 10 = s 10 + 1 := by
    intro r hr c1 c2
    -- reads of what is said at the end
    have rd : ∀ j, j ≠ 10 → (∀ p, r = some p → j ≠ 15 + 5 * p) → upd (z_dn (upd (z_td s f n) 11 (z_clp (s 11 + q))) r) 10 (z_dn (upd (z_td s f n) 11 (z_clp (s 11 + q))) r 10 + 1) j = upd (z_td s f n) 11 (z_clp (s 11 + q)) j := by
      intro j hj hp
      rw [pk_un hj]
      cases r with
      | none => rfl
      | some p => exact pk_un (hp p rfl)
    have d10 : z_dn (upd (z_td s f n) 11 (z_clp (s 11 + q))) r 10 = s 10 := by
      cases r with
      | none => exact u3 10 (by decide) (by omega)
      | some p => exact (pk_un (by omega)).trans (u3 10 (by decide) (by omega))
    refine ⟨z_dr s f n, t2, z_bt r, upd (z_dn (upd (z_td s f n) 11 (z_clp (s 11 + q))) r) 10 (z_dn (upd (z_td s f n) 11 (z_clp (s 11 + q))) r 10 + 1), ?_, a1, ?_, ?_, ?_, ?_, ?_, ?_⟩
    · rw [z_drawn hn o3, hdr]
    · rw [hq]; exact c1
    · exact eL.trans (c2.trans (e175 _))
    · rw [hq, hI, hI, t0, t1]
      refine ⟨?_, ?_, ?_, fun p hp => ?_⟩
      · rw [z_si_In (by decide), z_si_In (by decide), z_si_I, rd 11 (by decide) (fun p _ => by omega), pk_us]
      · rw [z_si_I, pk_us, d10]
      · rw [z_si_In (by decide), z_si_I]
        cases r with
        | none =>
          rw [show z_bt none = 0 from rfl, z_allnon n (by omega), ← z_m_all n]
          congr 1
          refine z_m_ext (fun p hp => ?_)
          unfold z_up
          rw [rd (15 + 5 * p) (by omega) (fun p' e => by cases e), pk_un (by omega), (z_td_in hp hn).2.2.2.1]
          rfl
        | some k =>
          have hk := hr k rfl
          rw [show z_bt (some k) = (1 : Int32) <<< (nI k &&& 31) from rfl, ← z_m_all n, z_non _ hn (by omega)]
          congr 1
          refine z_m_ext (fun p hp => ?_)
          unfold z_up
          by_cases e : p = k
          · subst e
            rw [pk_un (by omega)]
            show _ = decide (upd (upd (z_td s f n) 11 (z_clp (s 11 + q))) (15 + 5 * p) 0 (15 + 5 * p) = 1)
            rw [pk_us]
            simp
          · rw [rd (15 + 5 * p) (by omega) (fun p' e' => by cases e'; omega), pk_un (by omega), (z_td_in hp hn).2.2.2.1]
            simp [e]
      · rw [z_si_A, z_si_A, z_si_A, a3, a4, a5, a6, if_pos ⟨Nat.zero_le _, hp⟩, if_pos ⟨Nat.zero_le _, hp⟩, (tA p hp).1, (tA p hp).2.1, (tA p hp).2.2.1, (tA p hp).2.2.2, (oA p hp).2.2.1, (hy p hp).1]
        rw [rd (12 + 5 * p) (by omega) (fun p' _ => by omega), rd (13 + 5 * p) (by omega) (fun p' _ => by omega), rd (14 + 5 * p) (by omega) (fun p' _ => by omega), rd (16 + 5 * p) (by omega) (fun p' _ => by omega), pk_un (by omega), pk_un (by omega), pk_un (by omega), pk_un (by omega)]
        obtain ⟨g1, g2, g3, g4, g5⟩ := z_td_in (s := s) (f := f) hp hn
        rw [g1, g2, g3, g5]
        exact ⟨rfl, rfl, rfl, rfl⟩
    · refine ⟨?_, fun p hp => ?_, ?_⟩
      · rw [rd 11 (by decide) (fun p _ => by omega), pk_us]
        exact ⟨k2, k3⟩
      · rw [rd (12 + 5 * p) (by omega) (fun p' _ => by omega), rd (14 + 5 * p) (by omega) (fun p' _ => by omega), rd (16 + 5 * p) (by omega) (fun p' _ => by omega), pk_un (by omega), pk_un (by omega), pk_un (by omega)]
        obtain ⟨g1, g2, g3, g4, g5⟩ := z_td_in (s := s) (f := f) hp hn
        rw [g1, g3, g5]
        exact ⟨(hVp p hp).1, z_zw_nb (hy p hp).2 (hRp p hp).2.2.1, z_zk_nb (hy p hp).2 (hVp p hp).2.2⟩
      · refine z_P_ext (fun p hp => ?_) uP
        rw [rd (12 + 5 * p) (by omega) (fun p' _ => by omega), rd (13 + 5 * p) (by omega) (fun p' _ => by omega)]
        exact ⟨rfl, rfl⟩
    · intro j hj
      rw [rd j (by omega) (fun p e => by have := hr p e; omega)]
      exact u3 j (by omega) (by omega)
    · rw [pk_us, d10]
  have hth : ∀ m : Int32, g_I o 1 = s 2 → m + g_I o 1 - 5 = m + s 2 - 5 := fun m e => by rw [e]
  rcases z_tri q with c | ⟨c0, c1, c2⟩ | ⟨c0, c1, c2⟩
  · refine fin none (fun p e => by cases e) ?_ ?_
    · unfold t_X1_slipped
      rw [if_pos c]
      rfl
    · rw [e52, if_pos (show q ≤ 0 by rw [c]; decide), t_X12_passes_164, if_pos (show 0 ≤ q by rw [c]; decide)]
      rfl
  · obtain ⟨r, b1, b2, b3⟩ := slip 1 (0 - q) (by decide)
    refine fin r b3 ?_ ?_
    · unfold t_X1_slipped
      rw [if_neg c0, if_pos c1]
      unfold t_X1_slipped_15
      try dsimp only
      rw [if_neg c2, o1, hI, t0]
      exact b1
    · rw [e52, if_pos c1, t_X12_passes_164, if_neg c2]
      rw [show (1 : Int32) = nI 1 from rfl, b2]
      rfl
  · obtain ⟨r, b1, b2, b3⟩ := slip 0 q (by decide)
    refine fin r b3 ?_ ?_
    · unfold t_X1_slipped
      rw [if_neg c0, if_neg c1]
      unfold t_X1_slipped_15
      try dsimp only
      rw [if_pos c2, o1, hI, t0]
      exact b1
    · rw [e52, if_neg c1]
      rw [show t_X12_slips (r_sa σ 20 (upd (z_td s f n) 11 (z_clp (s 11 + q)))) 0 q = _ from b2, Option.bind_some, t_X12_passes_164, if_pos c2]
