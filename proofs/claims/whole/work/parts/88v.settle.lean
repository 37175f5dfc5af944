/-! ===== L3: what waits is written, both sides ===== -/
def z_js (w : Nat → Nat) (c : Nat) : Nat → g_S → Option g_S
  | 0, j => some j
  | n + 1, j => if c ≤ w n then (t_X7_write (if w n = 4 then g_si j 7 (g_I j 7 - 1) else j) (nI (w n)) 0).bind fun j2 => z_js w c n (g_si j2 6 (g_I j2 6 - 1)) else some j
theorem z_wr_f2 {j j' : g_S} {a b : Int32} (h : t_X7_write j a b = some j') : z_f2 j j' := by
  unfold t_X7_write at h
  try dsimp only at h
  split at h
  · injection h with h
    rw [← h]
    exact z_f2_refl _
  · cases e : u_si 400 j 1 (g_I j 2) (a + 32 * b) with
    | none => rw [e] at h; cases h
    | some x =>
      rw [e, Option.bind_some] at h
      injection h with h
      rw [← h]
      unfold u_si at e
      split at e
      · injection e with e
        rw [← e]
        exact ⟨fun k h1 h2 => z_si_In h1, fun k h => by rw [z_si_A, z_sa_of h], rfl⟩
      · cases e
theorem z_js_eq {w : Nat → Nat} {c : Nat} (hc : c ≤ 4) : ∀ (n fu : Nat) (j : g_S), n ≤ 40 → n < fu → (∀ i, i < n → w i ≤ 4) → g_I j 6 = nI n → (∀ i, i < n → g_A j 5 i = nI (w i)) → t_X7_settle_0 fu j (nI c) = z_js w c n j
  | 0, fu, j, _, hf, _, h6, _ => by
    obtain ⟨fu, rfl⟩ := Nat.exists_eq_succ_of_ne_zero (show fu ≠ 0 by omega)
    rw [t_X7_settle_0]
    try dsimp only
    rw [h6]
    exact if_pos (by decide)
  | n + 1, fu, j, hn, hf, hv, h6, h5 => by
    obtain ⟨fu, rfl⟩ := Nat.exists_eq_succ_of_ne_zero (show fu ≠ 0 by omega)
    have hw := hv n (Nat.lt_succ_self n)
    have e1 : g_I j 6 - 1 = nI n := by rw [h6, show (1 : Int32) = nI 1 from rfl, pk_sub (by omega), Nat.add_sub_cancel]
    have ea : t_ai 40 (g_A j 5) (g_I j 6 - 1) = some (nI (w n)) := by rw [e1, t_ai_in (by omega) (by decide), h5 n (Nat.lt_succ_self n)]
    rw [t_X7_settle_0]
    try dsimp only
    rw [if_neg (show ¬ g_I j 6 ≤ 0 by rw [h6]; exact nI_ge (a := 0) (by omega) (by omega)), ea, Option.bind_some, z_js]
    have e49 : ∀ jA : g_S, g_I jA 6 = g_I j 6 → g_A jA 5 = g_A j 5 → t_X7_settle_49 (t_X7_settle_0 fu) jA (nI c) (nI (w n)) = (t_X7_write jA (nI (w n)) 0).bind fun j2 => z_js w c n (g_si j2 6 (g_I j2 6 - 1)) := fun jA q6 q5 => by
      unfold t_X7_settle_49
      cases e : t_X7_write jA (nI (w n)) 0 with
      | none => rfl
      | some j2 =>
        have F := z_wr_f2 e
        rw [Option.bind_some, Option.bind_some]
        try dsimp only
        have i6 : g_I j2 6 = g_I j 6 := (F.1 6 (by decide) (by decide)).trans q6
        refine z_js_eq hc n fu (g_si j2 6 (g_I j2 6 - 1)) (by omega) (by omega) (fun i hi => hv i (by omega)) ?_ (fun i hi => ?_)
        · rw [z_si_I, i6, e1]
        · rw [z_si_A, F.2.1 5 (by decide), q5]
          exact h5 i (by omega)
    by_cases cc : c ≤ w n
    · rw [if_neg (nI_nlt cc (by omega)), if_pos cc, Option.bind_some]
      by_cases c4 : w n = 4
      · rw [if_pos (show nI (w n) = 4 by rw [c4]; rfl), if_pos c4]
        exact e49 _ (z_si_In (by decide)) rfl
      · rw [if_neg (show ¬ nI (w n) = 4 from fun e => c4 ((nI_eq (b := 4) (by omega) (by decide)).mp e)), if_neg c4]
        exact e49 _ rfl rfl
    · rw [if_pos (nI_lt (by omega) (by omega)), if_neg cc]
theorem z_js_4 {w : Nat → Nat} {c : Nat} (hc : c ≤ 4) : ∀ (n : Nat) (j : g_S), z_js w c n j = (z_js w 4 n j).bind (z_js w c (z_se w 4 n))
  | 0, j => rfl
  | n + 1, j => by
    rw [z_js, z_js, z_se]
    by_cases h : 4 ≤ w n
    · rw [if_pos h, if_pos (show c ≤ w n by omega), if_pos h, Option.bind_assoc]
      congr 1
      funext j2
      exact z_js_4 hc n _
    · rw [if_neg h, if_neg h, Option.bind_some, z_js]
theorem z_stren (k : Nat) (h1 : 1 ≤ k) (h4 : k ≤ 4) : m_X12_strength (nI (z_wc k)) = some (nI (k - 1)) := by
  have : k = 1 ∨ k = 2 ∨ k = 3 ∨ k = 4 := by omega
  rcases this with rfl | rfl | rfl | rfl <;> rfl
section ST
variable {r c0 m cl : Nat} {w : Nat → Nat}
theorem z_setS (h2 : 2 ≤ cl) (h4 : cl ≤ 4) : ∀ (n fu c : Nat) (j : g_S) (σ : r_S) (K V : Nat → Nat), z_cj j σ r c m K V → z_w1 j w n → z_w2 σ w n → (∀ i, i < n → 1 ≤ w i ∧ w i ≤ 4) → z_tt K c0 c (List.replicate (z_bn w n + 1) true) → c + n ≤ 400 → n < fu →
    ∃ j' σ' c' K' V', z_js w cl n j = some j' ∧ t_X12_layDown_0 fu σ (nI (cl - 1)) = some σ' ∧ z_cj j' σ' r c' m K' V' ∧ z_w1 j' w (z_se w cl n) ∧ z_w2 σ' w (z_se w cl n) ∧ z_tt K' c0 c' (List.replicate (z_bn w (z_se w cl n) + 1) true) ∧ c' + z_se w cl n ≤ c + n ∧ c ≤ c' ∧ z_f3 r σ σ' ∧ z_f4 j j' ∧ r_I σ' 8 = r_I σ 8 ∧ r_I σ' 9 = r_I σ 9 ∧ ∀ q, q < c → K' q = K q ∧ V' q = V q := by
  intro n
  induction n with
  | zero =>
    intro fu c j σ K V C A B hv T hc hf
    obtain ⟨fu, rfl⟩ := Nat.exists_eq_succ_of_ne_zero (show fu ≠ 0 by omega)
    refine ⟨j, σ, c, K, V, rfl, ?_, C, A, B, T, Nat.le_refl _, Nat.le_refl _, z_f3_refl _ _, z_f4_refl _, rfl, rfl, fun _ _ => ⟨rfl, rfl⟩⟩
    rw [t_X12_layDown_0]
    try dsimp only
    rw [B.1]
    exact if_pos (by decide)
  | succ n ih =>
    intro fu c j σ K V C A B hv T hc hf
    obtain ⟨fu, rfl⟩ := Nat.exists_eq_succ_of_ne_zero (show fu ≠ 0 by omega)
    obtain ⟨v1, v4⟩ := hv n (Nat.lt_succ_self n)
    have e1 : r_I σ 16 - 1 = nI n := by rw [B.1, show (1 : Int32) = nI 1 from rfl, pk_sub (by omega), Nat.add_sub_cancel]
    have ea : t_ai 400 (r_A σ 15) (nI n) = some (nI (z_wc (w n))) := by rw [t_ai_in (by omega) (by decide), B.2.1 n (Nat.lt_succ_self n)]
    have eL : t_X12_layDown_0 (fu + 1) σ (nI (cl - 1)) = if nI (w n - 1) < nI (cl - 1) then some σ else (t_ai 400 (r_A σ 15) (nI n)).bind fun v11 => (t_X12_puts (r_si σ 16 (nI n)) v11 0).bind fun σ13 => (t_ai 400 (r_A σ13 15) (r_I σ13 16)).bind fun v16 => if v16 = 11 then t_X12_layDown_0 fu (r_si σ13 13 (r_I σ13 13 - 1)) (nI (cl - 1)) else t_X12_layDown_0 fu σ13 (nI (cl - 1)) := by
      rw [t_X12_layDown_0]
      try dsimp only
      rw [if_neg (show ¬ r_I σ 16 ≤ 0 by rw [B.1]; exact nI_ge (a := 0) (by omega) (by omega)), e1, ea, Option.bind_some, z_stren _ v1 v4, Option.bind_some, z_rsiI, Option.bind_some]
      rw [show r_A (r_si σ 16 (nI n)) 15 = r_A σ 15 from rfl, ea, Option.bind_some]
    rw [eL, z_js, z_se]
    by_cases cc : cl ≤ w n
    · rw [if_neg (nI_nlt (by omega) (by omega)), if_pos cc, if_pos cc, ea, Option.bind_some]
      have hwc : z_wc (w n) = z_cv (w n) := if_neg (by omega)
      -- one sign
      obtain ⟨jA, hjA⟩ : ∃ jA, jA = (if w n = 4 then g_si j 7 (g_I j 7 - 1) else j) := ⟨_, rfl⟩
      have q2 : ∀ k, k ≠ 7 → g_I jA k = g_I j k := fun k hk => by
        rw [hjA]
        by_cases c4 : w n = 4
        · rw [if_pos c4]; exact z_si_In hk
        · rw [if_neg c4]
      have qA : g_A jA = g_A j ∧ g_P jA = g_P j := by
        rw [hjA]
        by_cases c4 : w n = 4
        · rw [if_pos c4]; exact ⟨rfl, rfl⟩
        · rw [if_neg c4]; exact ⟨rfl, rfl⟩
      have eD : z_dp w (n + 1) = z_dp w n + (if w n = 4 then 1 else 0) := by
        rw [z_dp]
        by_cases c4 : w n = 4
        · rw [if_pos (Or.inr c4), if_pos c4]
        · rw [if_neg (by omega), if_neg c4]
      have q7 : g_I jA 7 = nI (z_dp w n) := by
        rw [hjA]
        by_cases c4 : w n = 4
        · rw [if_pos c4] at eD ⊢
          rw [z_si_I, A.2.2, eD, show (1 : Int32) = nI 1 from rfl, pk_sub (by omega), Nat.add_sub_cancel]
        · rw [if_neg c4] at eD ⊢
          rw [A.2.2, eD]; rfl
      have C1 : z_cj jA (r_si σ 16 (nI n)) r c m K V := z_cj_w C (q2 2 (by decide)) (q2 8 (by decide)) (by rw [qA.1]) (z_rsiIn (by decide)) (z_rsiIn (by decide)) rfl rfl
      obtain ⟨j2, σ2, a1, a2, a3, a4, a5, a6, a7⟩ := z_put C1 (k := w n) (v := 0) (by omega) ⟨by omega, by omega, fun h => by omega⟩
      obtain ⟨σB, hσB⟩ : ∃ σB, σB = (if w n = 4 then r_si σ2 13 (r_I σ2 13 - 1) else σ2) := ⟨_, rfl⟩
      have s2 : ∀ k, k ≠ 13 → r_I σB k = r_I σ2 k := fun k hk => by
        rw [hσB]
        by_cases c4 : w n = 4
        · rw [if_pos c4]; exact z_rsiIn hk
        · rw [if_neg c4]
      have sA : r_A σB = r_A σ2 := by
        rw [hσB]
        by_cases c4 : w n = 4
        · rw [if_pos c4]; rfl
        · rw [if_neg c4]
      have sF : z_f3 r σ2 σB := by
        rw [hσB]
        by_cases c4 : w n = 4
        · rw [if_pos c4]; exact z_f3_si _ (by omega) _
        · rw [if_neg c4]; exact z_f3_refl _ _
      have s13 : r_I σB 13 = nI (z_dp w n) := by
        rw [hσB]
        have : r_I σ2 13 = nI (z_dp w (n + 1)) := (a6 13).trans ((z_rsiIn (by decide)).trans B.2.2)
        by_cases c4 : w n = 4
        · rw [if_pos c4] at eD ⊢
          rw [z_rsiI, this, eD, show (1 : Int32) = nI 1 from rfl, pk_sub (by omega), Nat.add_sub_cancel]
        · rw [if_neg c4] at eD ⊢
          rw [this, eD]; rfl
      have s16 : r_I σ2 16 = nI n := (a6 16).trans (z_rsiI _ _ _)
      have r15 : r_A σ2 15 = r_A σ 15 := a4.1 15 (by decide) (by decide)
      have T1 : z_tt (z_un K c (w n)) c0 (c + 1) (List.replicate (z_bn w n + 1) true) := by
        refine z_tt_put T ?_
        unfold z_t1
        rw [if_neg (by omega)]
        by_cases c4 : w n = 4
        · rw [if_pos c4, z_bn, if_neg (by omega)]
          rfl
        · rw [if_neg c4, if_pos (by omega), z_bn, if_pos (by omega)]
          rfl
      have i6 : g_I j2 6 = nI (n + 1) := (a5.1 6 (by decide) (by decide)).trans ((q2 6 (by decide)).trans A.1)
      obtain ⟨j', σ', c', K', V', x1, x2, x3, x4, x5, x6, x7, x8, x9, x10, x11, x12, x13⟩ := ih fu (c + 1) (g_si j2 6 (g_I j2 6 - 1)) σB _ _ (z_cj_w a3 (z_si_In (by decide)) (z_si_In (by decide)) rfl (s2 11 (by decide)) (s2 12 (by decide)) (by rw [sA]) (by rw [sA]))
        ⟨by rw [z_si_I, i6, show (1 : Int32) = nI 1 from rfl, pk_sub (by omega), Nat.add_sub_cancel], fun i hi => by rw [z_si_A, a5.2.1 5 (by decide), qA.1]; exact A.2.1 i (by omega), by rw [z_si_In (by decide), a5.1 7 (by decide) (by decide)]; exact q7⟩
        ⟨(s2 16 (by decide)).trans s16, fun i hi => by rw [sA, r15]; exact B.2.1 i (by omega), s13⟩ (fun i hi => hv i (by omega)) T1 (by omega) (by omega)
      refine ⟨j', σ', c', K', V', ?_, ?_, x3, x4, x5, x6, by omega, by omega, z_f3_trans (z_f3_si σ (by omega) _) (z_f3_trans (z_f3_1 a4) (z_f3_trans sF x9)), ?_, ?_, ?_, fun q hq => ?_⟩
      · rw [← hjA, show t_X7_write jA (nI (w n)) 0 = some j2 from a1, Option.bind_some]
        exact x1
      · rw [hwc, show t_X12_puts (r_si σ 16 (nI n)) (nI (z_cv (w n))) 0 = some σ2 from a2, Option.bind_some, s16, r15, ea, Option.bind_some, hwc, ← x2, hσB]
        by_cases c4 : w n = 4
        · rw [if_pos c4, if_pos (by rw [c4]; rfl)]
        · rw [if_neg c4, if_neg (fun e => ?_)]
          have : w n = 2 ∨ w n = 3 := by omega
          rcases this with h | h <;> rw [h] at e <;> exact absurd e (by decide)
      · refine z_f4_trans ?_ (z_f4_trans (z_f4_2 a5) (z_f4_trans (z_f4_si j2 (by omega) _) x10))
        exact ⟨fun k _ _ h7 _ => q2 k h7, fun k _ _ => by rw [qA.1], qA.2⟩
      · rw [x11, s2 8 (by decide), a6 8, z_rsiIn (by decide)]
      · rw [x12, s2 9 (by decide), a6 9, z_rsiIn (by decide)]
      · obtain ⟨y1, y2⟩ := x13 q (by omega)
        rw [y1, y2]
        exact ⟨if_neg (by omega), if_neg (by omega)⟩
    · rw [if_pos (nI_lt (by omega) (by omega)), if_neg cc, if_neg cc]
      exact ⟨j, σ, c, K, V, rfl, rfl, C, A, B, T, Nat.le_refl _, Nat.le_refl _, z_f3_refl _ _, z_f4_refl _, rfl, rfl, fun _ _ => ⟨rfl, rfl⟩⟩
end ST
/-- after a fault: what waits is written somehow -/
theorem z_set_any (a : Int32) : ∀ (n fu c : Nat) (j : g_S), n ≤ 40 → n < fu → g_I j 6 = nI n → g_I j 2 = nI c → c ≤ 400 → ∃ j' n' c', t_X7_settle_0 fu j a = some j' ∧ g_I j' 6 = nI n' ∧ n' ≤ n ∧ g_I j' 2 = nI c' ∧ c' ≤ 400 ∧ z_f4 j j'
  | 0, fu, c, j, _, hf, h6, h2, hc => by
    obtain ⟨fu, rfl⟩ := Nat.exists_eq_succ_of_ne_zero (show fu ≠ 0 by omega)
    refine ⟨j, 0, c, ?_, h6, Nat.le_refl _, h2, hc, z_f4_refl _⟩
    rw [t_X7_settle_0]
    try dsimp only
    rw [h6]
    exact if_pos (by decide)
  | n + 1, fu, c, j, hn, hf, h6, h2, hc => by
    obtain ⟨fu, rfl⟩ := Nat.exists_eq_succ_of_ne_zero (show fu ≠ 0 by omega)
    have e1 : g_I j 6 - 1 = nI n := by rw [h6, show (1 : Int32) = nI 1 from rfl, pk_sub (by omega), Nat.add_sub_cancel]
    have ea : t_ai 40 (g_A j 5) (g_I j 6 - 1) = some (g_A j 5 n) := by rw [e1, t_ai_in (by omega) (by decide)]
    have e49 : ∀ jA : g_S, g_I jA 6 = g_I j 6 → g_I jA 2 = g_I j 2 → z_f4 j jA → ∃ j' n' c', t_X7_settle_49 (t_X7_settle_0 fu) jA a (g_A j 5 n) = some j' ∧ g_I j' 6 = nI n' ∧ n' ≤ n + 1 ∧ g_I j' 2 = nI c' ∧ c' ≤ 400 ∧ z_f4 j j' := fun jA q6 q2 F => by
      obtain ⟨j2, c2, b1, b2, b3, b4⟩ := z_wr_any (q2.trans h2) hc (g_A j 5 n) 0
      have i6 : g_I j2 6 - 1 = nI n := by rw [b4.1 6 (by decide) (by decide), q6, e1]
      obtain ⟨j', n', c', x1, x2, x3, x4, x5, x6⟩ := z_set_any a n fu c2 (g_si j2 6 (g_I j2 6 - 1)) (by omega) (by omega) (by rw [z_si_I, i6]) (by rw [z_si_In (by decide)]; exact b2) b3
      refine ⟨j', n', c', ?_, x2, by omega, x4, x5, z_f4_trans F (z_f4_trans (z_f4_2 b4) (z_f4_trans (z_f4_si j2 (by omega) _) x6))⟩
      unfold t_X7_settle_49
      rw [b1, Option.bind_some]
      exact x1
    rw [t_X7_settle_0]
    try dsimp only
    rw [if_neg (show ¬ g_I j 6 ≤ 0 by rw [h6]; exact nI_ge (a := 0) (by omega) (by omega)), ea, Option.bind_some]
    by_cases cc : g_A j 5 n < a
    · rw [if_pos cc]
      exact ⟨j, n + 1, c, rfl, h6, Nat.le_refl _, h2, hc, z_f4_refl _⟩
    · rw [if_neg cc, Option.bind_some]
      by_cases c4 : g_A j 5 n = 4
      · rw [if_pos c4]
        exact e49 _ (z_si_In (by decide)) (z_si_In (by decide)) (z_f4_si _ (by omega) _)
      · rw [if_neg c4]
        exact e49 _ rfl rfl (z_f4_refl _)
