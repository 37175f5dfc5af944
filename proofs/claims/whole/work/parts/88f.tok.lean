/-! ===== L3: NUMBERS, and the class's tokens ===== -/
def z_val (u : Nat → Nat) (a : Nat) : Nat → Nat
  | 0 => 0
  | m + 1 => z_val u a m * 10 + (u (a + m) - 48)
theorem z_val_lt {u : Nat → Nat} {a : Nat} : ∀ m, (∀ j, j < m → u (a + j) ≤ 57) → z_val u a m < 10 ^ m
  | 0, _ => by simp [z_val]
  | m + 1, h => by
    have h1 := z_val_lt m (fun j hj => h j (by omega))
    have h2 := h m (by omega)
    rw [z_val, Nat.pow_succ]
    omega
theorem z_val5 {u : Nat → Nat} {a m : Nat} (hm : m ≤ 5) (h : ∀ j, j < m → u (a + j) ≤ 57) : z_val u a m < 100000 := by
  have h1 := z_val_lt m h
  have h2 : 10 ^ m ≤ 10 ^ 5 := Nat.pow_le_pow_right (by decide) hm
  omega
section CN
variable {d t : g_S} {f : Nat → Int32} {N : Nat}
theorem z_numCL (H : z_td9 t f N) {p E : Nat} (hE : E ≤ N) (h5 : E - p ≤ 5) (hd : ∀ j, p ≤ j → j < E → 48 ≤ z_u f j ∧ z_u f j ≤ 57) : ∀ (m k fu : Nat), p + k + m = E → m < fu → t_X3_numberIn_14 fu d t (nI E) (nI (z_val (z_u f) p k)) (nI (p + k)) = some (nI (z_val (z_u f) p (E - p))) := by
  have hN := H.2.2.1
  intro m
  induction m with
  | zero =>
    intro k fu hk hf
    obtain ⟨fu, rfl⟩ := Nat.exists_eq_succ_of_ne_zero (show fu ≠ 0 by omega)
    rw [t_X3_numberIn_14, if_pos (nI_le (by omega) (by omega)), show E - p = k by omega]
  | succ m ih =>
    intro k fu hk hf
    obtain ⟨fu, rfl⟩ := Nat.exists_eq_succ_of_ne_zero (show fu ≠ 0 by omega)
    obtain ⟨d1, d2⟩ := hd (p + k) (by omega) (by omega)
    have hv := z_val5 (u := z_u f) (a := p) (m := k) (by omega) (fun j hj => (hd (p + j) (by omega) (by omega)).2)
    rw [t_X3_numberIn_14, if_neg (nI_ge (show p + k < E by omega) (by omega)), z_byteAt H (by omega), Option.bind_some, if_pos (show p + k < N by omega), show (10 : Int32) = nI 10 from rfl, pk_mul, nI_add, show (48 : Int32) = nI 48 from rfl, pk_sub (by omega), nI_1, show z_val (z_u f) p k * 10 + z_u f (p + k) - 48 = z_val (z_u f) p (k + 1) by rw [z_val]; omega]
    exact ih (k + 1) fu (by omega) (by omega)
def z_kd (f : Nat → Int32) (N p : Nat) : Nat := if z_dg (z_u f) p then 601 else if z_lt (z_u f) p then z_wi z_wds (z_lw f N p) 700 else if (z_u f p = 60 ∨ z_u f p = 62) ∧ p + 1 < N ∧ z_u f (p + 1) = 61 then z_u f p + 256 else z_u f p
def z_nd (f : Nat → Int32) (N p : Nat) : Nat := if z_dg (z_u f) p then z_E (z_dg (z_u f)) N p else if z_lt (z_u f) p then z_E (z_lt (z_u f)) N p else if (z_u f p = 60 ∨ z_u f p = 62) ∧ p + 1 < N ∧ z_u f (p + 1) = 61 then p + 2 else p + 1
def z_nm (f : Nat → Int32) (N p : Nat) : Int32 := if z_dg (z_u f) p then (if z_E (z_dg (z_u f)) N p - p ≤ 5 then nI (z_val (z_u f) p (z_E (z_dg (z_u f)) N p - p)) else -1) else -1
theorem z_nd_gt (f : Nat → Int32) {N p : Nat} (hp : p < N) : p < z_nd f N p ∧ z_nd f N p ≤ N := by
  unfold z_nd
  by_cases c1 : z_dg (z_u f) p = true
  · rw [if_pos c1]
    have h1 := z_E_ge (z_dg (z_u f)) N (p + 1)
    have h2 := z_E_le (z_dg (z_u f)) (N := N) (i := p) (by omega)
    rw [z_E_step hp c1] at h2 ⊢
    omega
  · rw [if_neg c1]
    by_cases c2 : z_lt (z_u f) p = true
    · rw [if_pos c2]
      have h1 := z_E_ge (z_lt (z_u f)) N (p + 1)
      have h2 := z_E_le (z_lt (z_u f)) (N := N) (i := p) (by omega)
      rw [z_E_step hp c2] at h2 ⊢
      omega
    · rw [if_neg c2]
      split <;> omega
theorem z_part (H : z_td9 t f N) {p : Nat} (hp : p < N) : t_X3_part d t (nI p) = (t_X3_add d (nI (z_kd f N p)) (z_nm f N p) (nI p)).bind fun d' => some (nI (z_nd f N p), d') := by
  have hN := H.2.2.1
  have hu := z_u_lt f p
  have h89 : ∀ (hd : ¬ z_dg (z_u f) p = true) (hl : ¬ z_lt (z_u f) p = true), t_X3_part_89 d t (nI p) (nI (z_u f p)) (nI (p + 1)) = (t_X3_add d (nI (z_kd f N p)) (z_nm f N p) (nI p)).bind fun d' => some (nI (z_nd f N p), d') := by
    intro hd hl
    unfold z_kd z_nm z_nd
    rw [if_neg hd, if_neg hl, if_neg hd, if_neg hd, if_neg hl]
    have hu1 := z_u_lt f (p + 1)
    have e101 : t_X3_part_101 d t (nI p) (nI (z_u f p)) (nI (p + 1)) = if p + 1 < N ∧ z_u f (p + 1) = 61 then (t_X3_add d (nI (z_u f p + 256)) (-1) (nI p)).bind fun d' => some (nI (p + 2), d') else (t_X3_add d (nI (z_u f p)) (-1) (nI p)).bind fun d' => some (nI (p + 1), d') := by
      unfold t_X3_part_101
      rw [z_byteAt H (by omega), Option.bind_some, show nI (z_u f p) + 256 = nI (z_u f p + 256) from nI_add _ 256, nI_1]
      by_cases c1 : p + 1 < N
      · rw [if_pos c1]
        by_cases c2 : z_u f (p + 1) = 61
        · rw [if_pos (show nI (z_u f (p + 1)) = (61 : Int32) by rw [c2]; rfl), if_pos ⟨c1, c2⟩]
        · rw [if_neg (show ¬ nI (z_u f (p + 1)) = (61 : Int32) from fun e => c2 ((nI_eq (b := 61) (by omega) (by decide)).mp e)), if_neg (fun e => c2 e.2)]
          rfl
      · rw [if_neg c1, if_neg (by decide), if_neg (fun e => c1 e.1)]
        rfl
    unfold t_X3_part_89
    by_cases c60 : z_u f p = 60
    · rw [if_pos (show nI (z_u f p) = (60 : Int32) by rw [c60]; rfl), e101]
      by_cases cc : p + 1 < N ∧ z_u f (p + 1) = 61
      · rw [if_pos cc, if_pos ⟨Or.inl c60, cc⟩, if_pos ⟨Or.inl c60, cc⟩]
      · rw [if_neg cc, if_neg (fun e => cc e.2), if_neg (fun e => cc e.2)]
    · rw [if_neg (show ¬ nI (z_u f p) = (60 : Int32) from fun e => c60 ((nI_eq (b := 60) (by omega) (by decide)).mp e))]
      by_cases c62 : z_u f p = 62
      · rw [if_pos (show nI (z_u f p) = (62 : Int32) by rw [c62]; rfl), e101]
        by_cases cc : p + 1 < N ∧ z_u f (p + 1) = 61
        · rw [if_pos cc, if_pos ⟨Or.inr c62, cc⟩, if_pos ⟨Or.inr c62, cc⟩]
        · rw [if_neg cc, if_neg (fun e => cc e.2), if_neg (fun e => cc e.2)]
      · rw [if_neg (show ¬ nI (z_u f p) = (62 : Int32) from fun e => c62 ((nI_eq (b := 62) (by omega) (by decide)).mp e)), if_neg (by omega), if_neg (by omega)]
        rfl
  have h52 : ∀ (hd : ¬ z_dg (z_u f) p = true), t_X3_part_52 d t (nI p) (nI (z_u f p)) (nI (p + 1)) = (t_X3_add d (nI (z_kd f N p)) (z_nm f N p) (nI p)).bind fun d' => some (nI (z_nd f N p), d') := by
    intro hd
    unfold t_X3_part_52
    by_cases c1 : z_u f p < 97
    · rw [if_pos (show nI (z_u f p) < (97 : Int32) from nI_lt (b := 97) c1 (by decide))]
      exact h89 hd (fun e => by have := of_decide_eq_true e; omega)
    · rw [if_neg (show ¬ nI (z_u f p) < (97 : Int32) from nI_nlt (b := 97) (by omega) (by omega))]
      by_cases c2 : 122 < z_u f p
      · rw [if_pos (show (122 : Int32) < nI (z_u f p) from nI_lt (a := 122) c2 (by omega))]
        exact h89 hd (fun e => by have := of_decide_eq_true e; omega)
      · rw [if_neg (show ¬ (122 : Int32) < nI (z_u f p) from nI_nlt (a := 122) (by omega) (by decide))]
        have hl : z_lt (z_u f) p = true := decide_eq_true ⟨by omega, by omega⟩
        have eb : t_X3_behind d t (nI p) 97 122 = some (nI (z_E (z_lt (z_u f)) N p)) := z_behindL H (lo := 97) (hi := 122) (by decide) (by decide) (fun i => rfl) (N - p) p q_fu (by omega) (by show _ < 5000; omega)
        rw [eb, Option.bind_some, z_wordIn H (z_E_ge _ _ _) (z_E_le _ (by omega)), Option.bind_some]
        unfold z_kd z_nm z_nd z_lw
        rw [if_neg hd, if_pos hl, if_neg hd, if_neg hd, if_pos hl]
  unfold t_X3_part
  rw [z_byteAt H (by omega), Option.bind_some, if_pos hp, nI_1]
  by_cases c1 : z_u f p < 48
  · rw [if_pos (show nI (z_u f p) < (48 : Int32) from nI_lt (b := 48) c1 (by decide))]
    exact h52 (fun e => by have := of_decide_eq_true e; omega)
  · rw [if_neg (show ¬ nI (z_u f p) < (48 : Int32) from nI_nlt (b := 48) (by omega) (by omega))]
    by_cases c2 : 57 < z_u f p
    · rw [if_pos (show (57 : Int32) < nI (z_u f p) from nI_lt (a := 57) c2 (by omega))]
      exact h52 (fun e => by have := of_decide_eq_true e; omega)
    · rw [if_neg (show ¬ (57 : Int32) < nI (z_u f p) from nI_nlt (a := 57) (by omega) (by decide))]
      have hd : z_dg (z_u f) p = true := decide_eq_true ⟨by omega, by omega⟩
      have eb : t_X3_behind d t (nI p) 48 57 = some (nI (z_E (z_dg (z_u f)) N p)) := z_behindL H (lo := 48) (hi := 57) (by decide) (by decide) (fun i => rfl) (N - p) p q_fu (by omega) (by show _ < 5000; omega)
      have g1 := z_E_ge (z_dg (z_u f)) N p
      have g2 := z_E_le (z_dg (z_u f)) (N := N) (i := p) (by omega)
      have en : t_X3_numberIn d t (nI p) (nI (z_E (z_dg (z_u f)) N p)) = some (if z_E (z_dg (z_u f)) N p - p ≤ 5 then nI (z_val (z_u f) p (z_E (z_dg (z_u f)) N p - p)) else -1) := by
        unfold t_X3_numberIn
        rw [pk_sub g1]
        by_cases c5 : z_E (z_dg (z_u f)) N p - p ≤ 5
        · rw [if_pos (show nI (z_E (z_dg (z_u f)) N p - p) ≤ (5 : Int32) from nI_le (b := 5) c5 (by decide)), if_pos c5]
          exact z_numCL H g2 c5 (fun j h1 h2 => of_decide_eq_true (z_E_in (N := N) h1 h2)) (z_E (z_dg (z_u f)) N p - p) 0 q_fu (by omega) (by show _ < 5000; omega)
        · rw [if_neg (show ¬ nI (z_E (z_dg (z_u f)) N p - p) ≤ (5 : Int32) from nI_ge (a := 5) (by omega) (by omega)), if_neg c5]
      rw [eb, Option.bind_some, en, Option.bind_some]
      unfold z_kd z_nm z_nd
      rw [if_pos hd, if_pos hd, if_pos hd]
      rfl
/-- from token k on the rows hold what the TAPE has from p on -/
def z_tk (K M P : Nat → Int32) (f : Nat → Int32) (N T : Nat) : Nat → Nat → Nat → Prop
  | 0, k, p => p = N ∧ K k = 600 ∧ M k = -1 ∧ P k = nI N ∧ T = k + 1
  | m + 1, k, p => (p < N ∧ K k = nI (z_kd f N p) ∧ M k = z_nm f N p ∧ P k = nI p ∧ z_tk K M P f N T m (k + 1) (z_S (z_u f) N (z_nd f N p))) ∨ (p = N ∧ K k = 600 ∧ M k = -1 ∧ P k = nI N ∧ T = k + 1)
theorem z_addC {k : Nat} (hk : k ≤ 400) (h4 : g_I d 4 = nI k) (a1 a2 a3 : Int32) : t_X3_add d a1 a2 a3 = some (g_si (g_sa (g_sa (g_sa d 1 (upd (g_A d 1) k a1)) 2 (upd (g_A d 2) k a2)) 3 (upd (g_A d 3) k a3)) 4 (nI (k + 1))) := by
  unfold t_X3_add
  dsimp only
  rw [h4, if_neg (show ¬ (400 : Int32) < nI k from nI_nlt (a := 400) hk (by decide)), u_si_in (by omega) (by decide), Option.bind_some, show g_I (g_sa d 1 (upd (g_A d 1) k a1)) 4 = nI k from h4, u_si_in (by omega) (by decide), Option.bind_some, show g_I (g_sa (g_sa d 1 (upd (g_A d 1) k a1)) 2 (upd (g_A (g_sa d 1 (upd (g_A d 1) k a1)) 2) k a2)) 4 = nI k from h4, u_si_in (by omega) (by decide), Option.bind_some, z_sa_of (show 2 ≠ 1 by decide), z_sa_of (show 3 ≠ 2 by decide), z_sa_of (show 3 ≠ 1 by decide), show g_I (g_sa (g_sa (g_sa d 1 (upd (g_A d 1) k a1)) 2 (upd (g_A d 2) k a2)) 3 (upd (g_A d 3) k a3)) 4 = nI k from h4, nI_1]
end CN
theorem z_startL {t : g_S} {f : Nat → Int32} {N : Nat} (H : z_td9 t f N) : ∀ (m p k i fu : Nat) (d : g_S), p + m = N → m < fu → k ≤ p → i ≤ p → g_I d 4 = nI k → ∃ d' T mm, t_X3_start_9 fu d t (nI p) (nI i) = (t_X3_next (g_si (g_si d' 8 0) 5 (-1))).bind (fun d6 => some d6) ∧ g_I d' 4 = nI T ∧ k < T ∧ T ≤ 401 ∧ g_P d' = g_P d ∧ z_tk (g_A d' 1) (g_A d' 2) (g_A d' 3) f N T mm k (z_S (z_u f) N p) ∧ (∀ j, j < k → g_A d' 1 j = g_A d 1 j ∧ g_A d' 2 j = g_A d 2 j ∧ g_A d' 3 j = g_A d 3 j) := by
  have hN := H.2.2.1
  -- the end
  have fin : ∀ (k : Nat) (d : g_S), k ≤ 400 → g_I d 4 = nI k → ∃ d' T mm, t_X3_start_58 d t = (t_X3_next (g_si (g_si d' 8 0) 5 (-1))).bind (fun d6 => some d6) ∧ g_I d' 4 = nI T ∧ k < T ∧ T ≤ 401 ∧ g_P d' = g_P d ∧ z_tk (g_A d' 1) (g_A d' 2) (g_A d' 3) f N T mm k N ∧ (∀ j, j < k → g_A d' 1 j = g_A d 1 j ∧ g_A d' 2 j = g_A d 2 j ∧ g_A d' 3 j = g_A d 3 j) := by
    intro k d hk h4
    refine ⟨g_si (g_sa (g_sa (g_sa d 1 (upd (g_A d 1) k 600)) 2 (upd (g_A d 2) k (-1))) 3 (upd (g_A d 3) k (nI N))) 4 (nI (k + 1)), k + 1, 0, ?_, z_si_I _ _ _, by omega, by omega, ?_, ?_, fun j hj => ?_⟩
    · unfold t_X3_start_58
      try dsimp only
      rw [H.2.1, z_addC hk h4, Option.bind_some]
    · rfl
    · rw [z_si_A]
      refine ⟨rfl, ?_, ?_, ?_, rfl⟩
      · rw [z_sa_of (by decide), z_sa_of (by decide), z_sa_at, pk_us]
      · rw [z_sa_of (by decide), z_sa_at, pk_us]
      · rw [z_sa_at, pk_us]
    · rw [z_si_A, z_sa_of (show 1 ≠ 3 by decide), z_sa_of (show 1 ≠ 2 by decide), z_sa_at, z_sa_of (show 2 ≠ 3 by decide), z_sa_at, z_sa_at, pk_un (by omega), pk_un (by omega), pk_un (by omega)]
      exact ⟨rfl, rfl, rfl⟩
  intro m
  induction m using Nat.strongRecOn with
  | ind m ih =>
    intro p k i fu d hp hf hk hi h4
    obtain ⟨fu, rfl⟩ := Nat.exists_eq_succ_of_ne_zero (show fu ≠ 0 by omega)
    rw [t_X3_start_9]
    try dsimp only
    by_cases c : p < N
    · rw [if_neg (show ¬ (400 : Int32) ≤ nI i from nI_ge (b := 400) (by omega) (by decide)), H.2.1, if_neg (nI_ge c (by omega)), z_byteAt H (by omega), Option.bind_some, if_pos c]
      by_cases cb : z_u f p = 32
      · have eS : z_S (z_u f) N p = z_S (z_u f) N (p + 1) := by
          rw [z_S_E, z_S_E]
          exact z_E_step c (decide_eq_true cb)
        rw [if_pos (show nI (z_u f p) = (32 : Int32) by rw [cb]; rfl), t_X3_start_51, nI_1, nI_1, eS]
        exact ih (m - 1) (by omega) (p + 1) k (i + 1) fu d (by omega) (by omega) (by omega) (by omega) h4
      · have hu := z_u_lt f p
        have eS : z_S (z_u f) N p = p := by
          rw [z_S_E]
          exact z_E_stop (fun h => cb (of_decide_eq_true h.2))
        obtain ⟨n1, n2⟩ := z_nd_gt f c
        rw [if_neg (show ¬ nI (z_u f p) = (32 : Int32) from fun e => cb ((nI_eq (b := 32) (by omega) (by decide)).mp e)), z_part H c, z_addC (by omega) h4, Option.bind_some, Option.bind_some, eS]
        try dsimp only
        rw [t_X3_start_51, nI_1]
        obtain ⟨d', T, mm, a1, a2, a3, a4, a5, a6, a7⟩ := ih (N - z_nd f N p) (by omega) (z_nd f N p) (k + 1) (i + 1) fu (g_si (g_sa (g_sa (g_sa d 1 (upd (g_A d 1) k (nI (z_kd f N p)))) 2 (upd (g_A d 2) k (z_nm f N p))) 3 (upd (g_A d 3) k (nI p))) 4 (nI (k + 1))) (by omega) (by omega) (by omega) (by omega) (z_si_I _ _ _)
        have rd : ∀ j, g_A d' 1 j = g_A d' 1 j := fun _ => rfl
        have r7 : ∀ j, j < k + 1 → g_A d' 1 j = upd (g_A d 1) k (nI (z_kd f N p)) j ∧ g_A d' 2 j = upd (g_A d 2) k (z_nm f N p) j ∧ g_A d' 3 j = upd (g_A d 3) k (nI p) j := fun j hj => by
          obtain ⟨b1, b2, b3⟩ := a7 j hj
          rw [z_si_A, z_sa_of (show 1 ≠ 3 by decide), z_sa_of (show 1 ≠ 2 by decide), z_sa_at] at b1
          rw [z_si_A, z_sa_of (show 2 ≠ 3 by decide), z_sa_at] at b2
          rw [z_si_A, z_sa_at] at b3
          exact ⟨b1, b2, b3⟩
        refine ⟨d', T, mm + 1, a1, a2, by omega, a4, a5, Or.inl ⟨c, ?_, ?_, ?_, a6⟩, fun j hj => ?_⟩
        · rw [(r7 k (by omega)).1, pk_us]
        · rw [(r7 k (by omega)).2.1, pk_us]
        · rw [(r7 k (by omega)).2.2, pk_us]
        · obtain ⟨b1, b2, b3⟩ := r7 j (by omega)
          rw [b1, b2, b3, pk_un (by omega), pk_un (by omega), pk_un (by omega)]
          exact ⟨rfl, rfl, rfl⟩
    · have eS : z_S (z_u f) N p = N := by
        rw [z_S_E, z_E_stop (fun h => c h.1)]
        omega
      rw [eS]
      obtain ⟨d', T, mm, a⟩ := fin k d (by omega) h4
      refine ⟨d', T, mm, ?_, a.2⟩
      rw [← a.1]
      by_cases c4 : (400 : Int32) ≤ nI i
      · rw [if_pos c4]
      · rw [if_neg c4, H.2.1, if_pos (nI_le (by omega) (by omega))]
/-- the class's Reader looks at token k, which begins at p -/
def z_rr (d : g_S) (f : Nat → Int32) (N k p : Nat) : Prop := ∃ T mm, g_I d 4 = nI T ∧ T ≤ 401 ∧ g_I d 5 = nI k ∧ k < T ∧ g_I d 6 = g_A d 1 k ∧ g_I d 7 = g_A d 2 k ∧ z_tk (g_A d 1) (g_A d 2) (g_A d 3) f N T mm k p
theorem z_rr_end {d : g_S} {f : Nat → Int32} {N k p : Nat} (R : z_rr d f N k p) (hp : ¬ p < N) : p = N ∧ g_I d 6 = 600 ∧ g_I d 7 = -1 ∧ g_A d 3 k = nI N := by
  obtain ⟨T, mm, r1, r2, r3, r4, r5, r6, r7⟩ := R
  cases mm with
  | zero =>
    obtain ⟨a1, a2, a3, a4, a5⟩ := r7
    exact ⟨a1, r5.trans a2, r6.trans a3, a4⟩
  | succ mm =>
    rcases r7 with ⟨a, -⟩ | ⟨a1, a2, a3, a4, a5⟩
    · exact absurd a hp
    · exact ⟨a1, r5.trans a2, r6.trans a3, a4⟩
theorem z_rr_at {d : g_S} {f : Nat → Int32} {N k p : Nat} (R : z_rr d f N k p) (hp : p < N) : g_I d 6 = nI (z_kd f N p) ∧ g_I d 7 = z_nm f N p ∧ g_A d 3 k = nI p := by
  obtain ⟨T, mm, r1, r2, r3, r4, r5, r6, r7⟩ := R
  cases mm with
  | zero =>
    obtain ⟨a1, -⟩ := r7
    omega
  | succ mm =>
    rcases r7 with ⟨a, b, c, e, -⟩ | ⟨a1, -⟩
    · exact ⟨r5.trans b, r6.trans c, e⟩
    · omega
theorem z_next {d : g_S} {f : Nat → Int32} {N k p : Nat} (R : z_rr d f N k p) (hp : p < N) : ∃ d', t_X3_next d = some d' ∧ z_rr d' f N (k + 1) (z_S (z_u f) N (z_nd f N p)) ∧ g_I d' 8 = g_I d 8 ∧ g_P d' = g_P d := by
  obtain ⟨T, mm, r1, r2, r3, r4, r5, r6, r7⟩ := R
  cases mm with
  | zero =>
    obtain ⟨a1, -⟩ := r7
    omega
  | succ mm =>
    rcases r7 with ⟨a, b, c, e, g⟩ | ⟨a1, -⟩
    · have hT : k + 1 < T := by
        cases mm with
        | zero => obtain ⟨-, -, -, -, x⟩ := g; omega
        | succ mm =>
          rcases g with ⟨-, -, -, -, x⟩ | ⟨-, -, -, -, x⟩
          · -- there is an end behind it
            have : ∀ (m k p : Nat), z_tk (g_A d 1) (g_A d 2) (g_A d 3) f N T m k p → k < T := by
              intro m
              induction m with
              | zero => intro k p h; obtain ⟨-, -, -, -, y⟩ := h; omega
              | succ m ih =>
                intro k p h
                rcases h with ⟨-, -, -, -, y⟩ | ⟨-, -, -, -, y⟩
                · have := ih _ _ y; omega
                · omega
            have := this _ _ _ x
            omega
          · omega
      refine ⟨g_si (g_si (g_si d 5 (nI (k + 1))) 6 (g_A d 1 (k + 1))) 7 (g_A d 2 (k + 1)), ?_, ⟨T, mm, ?_, r2, ?_, hT, ?_, ?_, g⟩, ?_, rfl⟩
      · unfold t_X3_next
        try dsimp only
        rw [r3, r1, nI_1, if_neg (nI_ge hT (by omega))]
        unfold t_X3_next_23
        try dsimp only
        rw [z_si_I, z_si_A, t_ai_in (by omega) (by decide), Option.bind_some, z_si_In (by decide), z_si_I, z_si_A, z_si_A, t_ai_in (by omega) (by decide), Option.bind_some]
      · rw [z_si_In (by decide), z_si_In (by decide), z_si_In (by decide)]; exact r1
      · rw [z_si_In (by decide), z_si_In (by decide), z_si_I]
      · rw [z_si_In (by decide), z_si_I]; rfl
      · rw [z_si_I]; rfl
      · rw [z_si_In (by decide), z_si_In (by decide), z_si_In (by decide)]
    · omega
theorem z_start3 {d t : g_S} {f : Nat → Int32} {N : Nat} (H : z_td9 t f N) : ∃ d', t_X3_start d t = some d' ∧ z_rr d' f N 0 (z_S (z_u f) N 0) ∧ g_I d' 8 = 0 ∧ g_P d' = g_P d := by
  have hN := H.2.2.1
  obtain ⟨d1, T, mm, a1, a2, a3, a4, a5, a6, a7⟩ := z_startL H N 0 0 0 q_fu (g_si d 4 0) (by omega) (by show N < 5000; omega) (by omega) (by omega) (z_si_I _ _ _)
  refine ⟨g_si (g_si (g_si (g_si (g_si d1 8 0) 5 (-1)) 5 0) 6 (g_A d1 1 0)) 7 (g_A d1 2 0), ?_, ⟨T, mm, ?_, a4, ?_, a3, ?_, ?_, a6⟩, ?_, a5⟩
  · unfold t_X3_start
    try dsimp only
    refine a1.trans ?_
    unfold t_X3_next
    try dsimp only
    rw [z_si_I, z_si_In (by decide), z_si_In (by decide), a2, if_neg (show ¬ nI T ≤ (-1 : Int32) + 1 from nI_ge (a := 0) (by omega) (by omega))]
    unfold t_X3_next_23
    try dsimp only
    rw [show (-1 : Int32) + 1 = 0 from by decide, z_si_I, z_si_A, z_si_A, z_si_A, show (0 : Int32) = nI 0 from rfl, t_ai_in (by decide) (by decide), Option.bind_some, z_si_In (by decide), z_si_I, z_si_A, z_si_A, z_si_A, z_si_A, t_ai_in (by decide) (by decide), Option.bind_some]
    rfl
  · rw [z_si_In (by decide), z_si_In (by decide), z_si_In (by decide), z_si_In (by decide), z_si_In (by decide)]; exact a2
  · rw [z_si_In (by decide), z_si_In (by decide), z_si_I]; rfl
  · rw [z_si_In (by decide), z_si_I]; rfl
  · rw [z_si_I]; rfl
  · rw [z_si_In (by decide), z_si_In (by decide), z_si_In (by decide), z_si_In (by decide), z_si_I]
