/-! ===== L3: send, front: both loops ===== -/
section SF
variable {a q : Nat → Nat} {n p : Nat}
theorem z_ix13 (k : Nat) : ((12 : Int32) + (5 : Int32) * nI k) + 1 = nI (13 + 5 * k) := by
  rw [show (5 : Int32) = nI 5 from rfl, pk_mul, show (12 : Int32) = nI 12 from rfl, nI_add, nI_1]
  congr 1
  omega
theorem z_i12 (k : Nat) : (12 : Int32) + (5 : Int32) * nI k = nI (12 + 5 * k) := by
  rw [show (5 : Int32) = nI 5 from rfl, pk_mul, show (12 : Int32) = nI 12 from rfl, nI_add]
theorem z_crossL (hn : n ≤ 8) (hp : p < n) (ha : ∀ i, i < n → a i ≤ 1 ∧ q i < 8) : ∀ (m k fu : Nat) (t : g_S), k + m = n → m < fu → (∀ i, i < n → g_A t 3 i = nI (a i) ∧ g_A t 4 i = nI (if i < k then z_qs a q p i else q i)) → ∃ t', t_X10_crossOver_13 fu t (nI p) (nI n) (nI (a p)) (nI (z_c (fun i => decide (¬ a i = a p)) k)) (nI k) = some t' ∧ g_I t' = g_I t ∧ (∀ i, i < n → g_A t' 3 i = nI (if i = p then 1 - a p else a i) ∧ g_A t' 4 i = nI (if i = p then z_c (fun i => decide (¬ a i = a p)) n else z_qs a q p i)) ∧ g_A t' 5 = g_A t 5 ∧ g_A t' 6 = g_A t 6 := by
  have hap := (ha p hp).1
  intro m
  induction m with
  | zero =>
    intro k fu t hk hf H
    obtain ⟨fu, rfl⟩ := Nat.exists_eq_succ_of_ne_zero (show fu ≠ 0 by omega)
    have hkn : k = n := by omega
    subst hkn
    refine ⟨g_sa (g_sa t 3 (upd (g_A t 3) p (nI (1 - a p)))) 4 (upd (g_A t 4) p (nI (z_c (fun i => decide (¬ a i = a p)) k))), ?_, rfl, fun i hi => ⟨?_, ?_⟩, ?_, ?_⟩
    · rw [t_X10_crossOver_13, if_pos (nI_le (Nat.le_refl _) (by omega)), show (1 : Int32) - nI (a p) = nI (1 - a p) from pk_sub (a := 1) (by omega), u_si_in (by omega) (by decide), Option.bind_some, u_si_in (by omega) (by decide), Option.bind_some, z_sa_of (by decide)]
    · rw [z_sa_of (by decide), z_sa_at]
      by_cases e : i = p
      · rw [e, pk_us, if_pos rfl]
      · rw [pk_un e, if_neg e]; exact (H i hi).1
    · rw [z_sa_at]
      by_cases e : i = p
      · rw [e, pk_us, if_pos rfl]
      · rw [pk_un e, if_neg e, (H i hi).2, if_pos hi]
    · rw [z_sa_of (by decide), z_sa_of (by decide)]
    · rw [z_sa_of (by decide), z_sa_of (by decide)]
  | succ m ih =>
    intro k fu t hk hf H
    obtain ⟨fu, rfl⟩ := Nat.exists_eq_succ_of_ne_zero (show fu ≠ 0 by omega)
    have hkn : k < n := by omega
    obtain ⟨a1, a2⟩ := H k hkn
    rw [if_neg (Nat.lt_irrefl k)] at a2
    have pp : g_A t 4 p = nI (q p) := by
      rw [(H p hp).2]
      congr 1
      unfold z_qs
      by_cases e : p < k
      · rw [if_pos e, if_neg (fun x => Nat.lt_irrefl _ x.2)]
      · rw [if_neg e]
    obtain ⟨hak, hqk⟩ := ha k hkn
    obtain ⟨-, hqp⟩ := ha p hp
    rw [t_X10_crossOver_13, if_neg (nI_ge hkn (by omega)), t_ai_in (by omega) (by decide), Option.bind_some, a1]
    unfold t_X10_crossOver_63
    by_cases c1 : a k = a p
    · rw [if_pos (by rw [c1]), t_ai_in (show k < 8 by omega) (by decide), Option.bind_some, t_ai_in (show p < 8 by omega) (by decide), Option.bind_some, a2, pp, nI_1]
      have ec : z_c (fun i => decide (¬ a i = a p)) (k + 1) = z_c (fun i => decide (¬ a i = a p)) k := by
        rw [z_c, decide_eq_false (fun x => x c1)]
        rfl
      by_cases c2 : q k ≤ q p
      · rw [if_pos (nI_le c2 (by omega)), ← ec]
        refine ih (k + 1) fu t (by omega) (by omega) (fun i hi => ⟨(H i hi).1, ?_⟩)
        rw [(H i hi).2]
        by_cases e : i = k
        · subst e
          rw [if_neg (Nat.lt_irrefl i), if_pos (Nat.lt_succ_self i)]
          unfold z_qs
          rw [if_neg (fun x => by omega)]
        · by_cases e2 : i < k
          · rw [if_pos e2, if_pos (by omega)]
          · rw [if_neg e2, if_neg (by omega)]
      · rw [if_neg (nI_ge (by omega) (by omega)), Option.bind_some, show nI (q k) - 1 = nI (q k - 1) from pk_sub (b := 1) (by omega), u_si_in (by omega) (by decide), Option.bind_some, ← ec]
        obtain ⟨t', x1, x2, x3, x4, x5⟩ := ih (k + 1) fu (g_sa t 4 (upd (g_A t 4) k (nI (q k - 1)))) (by omega) (by omega) (fun i hi => ⟨by rw [z_sa_of (by decide)]; exact (H i hi).1, by
            rw [z_sa_at]
            by_cases e : i = k
            · subst e
              rw [pk_us, if_pos (Nat.lt_succ_self i)]
              unfold z_qs
              rw [if_pos ⟨c1, by omega⟩]
            · rw [pk_un e, (H i hi).2]
              by_cases e2 : i < k
              · rw [if_pos e2, if_pos (by omega)]
              · rw [if_neg e2, if_neg (by omega)]⟩)
        exact ⟨t', x1, x2, x3, x4.trans (z_sa_of (by decide)), x5.trans (z_sa_of (by decide))⟩
    · have ec : z_c (fun i => decide (¬ a i = a p)) (k + 1) = z_c (fun i => decide (¬ a i = a p)) k + 1 := by
        rw [z_c, decide_eq_true c1]
        rfl
      rw [if_neg (fun x => c1 ((nI_eq (by omega) (by omega)).mp x)), nI_1, nI_1, ← ec]
      refine ih (k + 1) fu t (by omega) (by omega) (fun i hi => ⟨(H i hi).1, ?_⟩)
      rw [(H i hi).2]
      by_cases e : i = k
      · subst e
        rw [if_neg (Nat.lt_irrefl i), if_pos (Nat.lt_succ_self i)]
        unfold z_qs
        rw [if_neg (fun x => c1 x.1)]
      · by_cases e2 : i < k
        · rw [if_pos e2, if_pos (by omega)]
        · rw [if_neg e2, if_neg (by omega)]
theorem z_sendL {M : Int32} (hn : n ≤ 8) (hp : p < n) (ha : ∀ i, i < n → a i ≤ 1 ∧ q i < 8) : ∀ (m k fu : Nat) (σ : r_S), k + m = n → m < fu → r_A σ 20 3 = nI n → (∀ i, i < n → r_A σ 20 (12 + 5 * i) = nI (a i) ∧ r_A σ 20 (13 + 5 * i) = nI (if i < k then z_qs a q p i else q i)) → ∃ s', t_X12_send_34 fu σ (nI p) (nI (a p)) M (nI k) = some (nI (1 - a p), r_sa σ 20 s') ∧ (∀ i, i < n → s' (12 + 5 * i) = nI (if i = p then 1 - a p else a i) ∧ s' (13 + 5 * i) = if i = p then M else nI (z_qs a q p i)) ∧ ∀ j, (∀ i, i < n → j ≠ 12 + 5 * i ∧ j ≠ 13 + 5 * i) → s' j = r_A σ 20 j := by
  have hap := (ha p hp).1
  intro m
  induction m with
  | zero =>
    intro k fu σ hk hf h3 H
    obtain ⟨fu, rfl⟩ := Nat.exists_eq_succ_of_ne_zero (show fu ≠ 0 by omega)
    have hkn : k = n := by omega
    subst hkn
    refine ⟨upd (upd (r_A σ 20) (12 + 5 * p) (nI (1 - a p))) (13 + 5 * p) M, ?_, fun i hi => ⟨?_, ?_⟩, fun j hj => ?_⟩
    · rw [t_X12_send_34, z_a3, Option.bind_some, h3, if_pos (nI_le (Nat.le_refl _) (by omega)), z_ix13, z_i12, show (1 : Int32) - nI (a p) = nI (1 - a p) from pk_sub (a := 1) (by omega), t_si_in (by omega) (by decide), Option.bind_some, t_si_in (by omega) (by decide), Option.bind_some, z_rA, z_rsa2]
    · rw [pk_un (by omega)]
      by_cases e : i = p
      · rw [e, pk_us, if_pos rfl]
      · rw [pk_un (by omega), if_neg e]; exact (H i hi).1
    · by_cases e : i = p
      · rw [e, pk_us, if_pos rfl]
      · rw [pk_un (by omega), pk_un (by omega), if_neg e, (H i hi).2, if_pos hi]
    · rw [pk_un (hj p hp).2, pk_un (hj p hp).1]
  | succ m ih =>
    intro k fu σ hk hf h3 H
    obtain ⟨fu, rfl⟩ := Nat.exists_eq_succ_of_ne_zero (show fu ≠ 0 by omega)
    have hkn : k < n := by omega
    obtain ⟨a1, a2⟩ := H k hkn
    rw [if_neg (Nat.lt_irrefl k)] at a2
    have pp : r_A σ 20 (13 + 5 * p) = nI (q p) := by
      rw [(H p hp).2]
      congr 1
      unfold z_qs
      by_cases e : p < k
      · rw [if_pos e, if_neg (fun x => Nat.lt_irrefl _ x.2)]
      · rw [if_neg e]
    obtain ⟨hak, hqk⟩ := ha k hkn
    obtain ⟨-, hqp⟩ := ha p hp
    have keep : (z_qs a q p k = q k) → ∀ i, i < n → r_A σ 20 (13 + 5 * i) = nI (if i < k + 1 then z_qs a q p i else q i) := fun e0 i hi => by
      rw [(H i hi).2]
      by_cases e : i = k
      · subst e
        rw [if_neg (Nat.lt_irrefl i), if_pos (Nat.lt_succ_self i), e0]
      · by_cases e2 : i < k
        · rw [if_pos e2, if_pos (by omega)]
        · rw [if_neg e2, if_neg (by omega)]
    rw [t_X12_send_34, z_a3, Option.bind_some, h3, if_neg (nI_ge hkn (by omega)), z_sideOf (by omega), Option.bind_some, a1]
    unfold t_X12_send_87
    rw [nI_1]
    by_cases c1 : a k = a p
    · rw [if_pos (by rw [c1]), z_placeOf (by omega), Option.bind_some, z_placeOf (by omega), Option.bind_some, a2, pp]
      by_cases c2 : q k ≤ q p
      · rw [if_pos (nI_le c2 (by omega))]
        exact ih (k + 1) fu σ (by omega) (by omega) h3 (fun i hi => ⟨(H i hi).1, keep (by unfold z_qs; rw [if_neg (fun x => by omega)]) i hi⟩)
      · rw [if_neg (nI_ge (by omega) (by omega)), z_ix13, t_ai_in (by omega) (by decide), Option.bind_some, a2, show nI (q k) - 1 = nI (q k - 1) from pk_sub (b := 1) (by omega), t_si_in (by omega) (by decide), Option.bind_some]
        obtain ⟨s', x1, x2, x3⟩ := ih (k + 1) fu (r_sa σ 20 (upd (r_A σ 20) (13 + 5 * k) (nI (q k - 1)))) (by omega) (by omega) (by rw [z_rA, pk_un (by omega)]; exact h3) (fun i hi => ⟨by rw [z_rA, pk_un (by omega)]; exact (H i hi).1, by
            rw [z_rA]
            by_cases e : i = k
            · subst e
              rw [pk_us, if_pos (Nat.lt_succ_self i)]
              unfold z_qs
              rw [if_pos ⟨c1, by omega⟩]
            · rw [pk_un (by omega), (H i hi).2]
              by_cases e2 : i < k
              · rw [if_pos e2, if_pos (by omega)]
              · rw [if_neg e2, if_neg (by omega)]⟩)
        rw [z_rsa2] at x1
        exact ⟨s', x1, x2, fun j hj => by rw [x3 j hj, z_rA, pk_un (hj k hkn).2]⟩
    · rw [if_neg (fun x => c1 ((nI_eq (by omega) (by omega)).mp x))]
      exact ih (k + 1) fu σ (by omega) (by omega) h3 (fun i hi => ⟨(H i hi).1, keep (by unfold z_qs; rw [if_neg (fun x => c1 x.1)]) i hi⟩)
theorem z_frontC (hn : n ≤ 8) (hp : p < n) (ha : ∀ i, i < n → a i ≤ 1 ∧ q i < 8) : ∀ (m k fu : Nat) (t : g_S), k + m = n → m < fu → (∀ i, i < n → g_A t 3 i = nI (a i) ∧ g_A t 4 i = nI (if i < k then z_qf a q p i else q i)) → ∃ t', t_X10_stepToFront_2 fu t (nI p) (nI n) (nI k) = some t' ∧ g_I t' = g_I t ∧ g_A t' 3 = g_A t 3 ∧ (∀ i, i < n → g_A t' 4 i = nI (if i = p then 0 else z_qf a q p i)) ∧ g_A t' 5 = g_A t 5 ∧ g_A t' 6 = g_A t 6 := by
  intro m
  induction m with
  | zero =>
    intro k fu t hk hf H
    obtain ⟨fu, rfl⟩ := Nat.exists_eq_succ_of_ne_zero (show fu ≠ 0 by omega)
    have hkn : k = n := by omega
    subst hkn
    refine ⟨g_sa t 4 (upd (g_A t 4) p 0), ?_, rfl, z_sa_of (by decide), fun i hi => ?_, z_sa_of (by decide), z_sa_of (by decide)⟩
    · rw [t_X10_stepToFront_2, if_pos (nI_le (Nat.le_refl _) (by omega)), u_si_in (by omega) (by decide), Option.bind_some]
    · rw [z_sa_at]
      by_cases e : i = p
      · rw [e, pk_us, if_pos rfl]; rfl
      · rw [pk_un e, if_neg e, (H i hi).2, if_pos hi]
  | succ m ih =>
    intro k fu t hk hf H
    obtain ⟨fu, rfl⟩ := Nat.exists_eq_succ_of_ne_zero (show fu ≠ 0 by omega)
    have hkn : k < n := by omega
    obtain ⟨a1, a2⟩ := H k hkn
    rw [if_neg (Nat.lt_irrefl k)] at a2
    have pp : g_A t 4 p = nI (q p) := by
      rw [(H p hp).2]
      congr 1
      unfold z_qf
      by_cases e : p < k
      · rw [if_pos e, if_neg (fun x => Nat.lt_irrefl _ x.2)]
      · rw [if_neg e]
    obtain ⟨hak, hqk⟩ := ha k hkn
    obtain ⟨hap, hqp⟩ := ha p hp
    have keep : (z_qf a q p k = q k) → ∀ i, i < n → g_A t 4 i = nI (if i < k + 1 then z_qf a q p i else q i) := fun e0 i hi => by
      rw [(H i hi).2]
      by_cases e : i = k
      · subst e
        rw [if_neg (Nat.lt_irrefl i), if_pos (Nat.lt_succ_self i), e0]
      · by_cases e2 : i < k
        · rw [if_pos e2, if_pos (by omega)]
        · rw [if_neg e2, if_neg (by omega)]
    rw [t_X10_stepToFront_2, if_neg (nI_ge hkn (by omega)), t_ai_in (show k < 8 by omega) (by decide), Option.bind_some, t_ai_in (show p < 8 by omega) (by decide), Option.bind_some, a1, (H p hp).1]
    unfold t_X10_stepToFront_47
    rw [nI_1]
    by_cases c1 : a k = a p
    · rw [if_pos (by rw [c1]), t_ai_in (show k < 8 by omega) (by decide), Option.bind_some, t_ai_in (show p < 8 by omega) (by decide), Option.bind_some, a2, pp]
      by_cases c2 : q p ≤ q k
      · rw [if_pos (nI_le c2 (by omega))]
        exact ih (k + 1) fu t (by omega) (by omega) (fun i hi => ⟨(H i hi).1, keep (by unfold z_qf; rw [if_neg (fun x => by omega)]) i hi⟩)
      · rw [if_neg (nI_ge (by omega) (by omega)), Option.bind_some, nI_1, u_si_in (by omega) (by decide), Option.bind_some]
        obtain ⟨t', x1, x2, x3, x4, x5, x6⟩ := ih (k + 1) fu (g_sa t 4 (upd (g_A t 4) k (nI (q k + 1)))) (by omega) (by omega) (fun i hi => ⟨by rw [z_sa_of (by decide)]; exact (H i hi).1, by
            rw [z_sa_at]
            by_cases e : i = k
            · subst e
              rw [pk_us, if_pos (Nat.lt_succ_self i)]
              unfold z_qf
              rw [if_pos ⟨c1, by omega⟩]
            · rw [pk_un e, (H i hi).2]
              by_cases e2 : i < k
              · rw [if_pos e2, if_pos (by omega)]
              · rw [if_neg e2, if_neg (by omega)]⟩)
        exact ⟨t', x1, x2, x3.trans (z_sa_of (by decide)), x4, x5.trans (z_sa_of (by decide)), x6.trans (z_sa_of (by decide))⟩
    · rw [if_neg (fun x => c1 ((nI_eq (by omega) (by omega)).mp x))]
      exact ih (k + 1) fu t (by omega) (by omega) (fun i hi => ⟨(H i hi).1, keep (by unfold z_qf; rw [if_neg (fun x => c1 x.1)]) i hi⟩)
theorem z_frontR (hn : n ≤ 8) (hp : p < n) (ha : ∀ i, i < n → a i ≤ 1 ∧ q i < 8) : ∀ (m k fu : Nat) (σ : r_S), k + m = n → m < fu → r_A σ 20 3 = nI n → (∀ i, i < n → r_A σ 20 (12 + 5 * i) = nI (a i) ∧ r_A σ 20 (13 + 5 * i) = nI (if i < k then z_qf a q p i else q i)) → ∃ s', t_X12_front_30 fu σ (nI p) (nI (q p)) (nI k) = some (nI (q p), r_sa σ 20 s') ∧ (∀ i, i < n → s' (12 + 5 * i) = nI (a i) ∧ s' (13 + 5 * i) = nI (if i = p then 0 else z_qf a q p i)) ∧ ∀ j, (∀ i, i < n → j ≠ 13 + 5 * i) → s' j = r_A σ 20 j := by
  intro m
  induction m with
  | zero =>
    intro k fu σ hk hf h3 H
    obtain ⟨fu, rfl⟩ := Nat.exists_eq_succ_of_ne_zero (show fu ≠ 0 by omega)
    have hkn : k = n := by omega
    subst hkn
    refine ⟨upd (r_A σ 20) (13 + 5 * p) 0, ?_, fun i hi => ⟨?_, ?_⟩, fun j hj => ?_⟩
    · rw [t_X12_front_30, z_a3, Option.bind_some, h3, if_pos (nI_le (Nat.le_refl _) (by omega)), z_ix13, t_si_in (by omega) (by decide), Option.bind_some]
    · rw [pk_un (by omega)]; exact (H i hi).1
    · by_cases e : i = p
      · rw [e, pk_us, if_pos rfl]; rfl
      · rw [pk_un (by omega), if_neg e, (H i hi).2, if_pos hi]
    · rw [pk_un (hj p hp)]
  | succ m ih =>
    intro k fu σ hk hf h3 H
    obtain ⟨fu, rfl⟩ := Nat.exists_eq_succ_of_ne_zero (show fu ≠ 0 by omega)
    have hkn : k < n := by omega
    obtain ⟨a1, a2⟩ := H k hkn
    rw [if_neg (Nat.lt_irrefl k)] at a2
    obtain ⟨hak, hqk⟩ := ha k hkn
    obtain ⟨hap, hqp⟩ := ha p hp
    have keep : (z_qf a q p k = q k) → ∀ i, i < n → r_A σ 20 (13 + 5 * i) = nI (if i < k + 1 then z_qf a q p i else q i) := fun e0 i hi => by
      rw [(H i hi).2]
      by_cases e : i = k
      · subst e
        rw [if_neg (Nat.lt_irrefl i), if_pos (Nat.lt_succ_self i), e0]
      · by_cases e2 : i < k
        · rw [if_pos e2, if_pos (by omega)]
        · rw [if_neg e2, if_neg (by omega)]
    rw [t_X12_front_30, z_a3, Option.bind_some, h3, if_neg (nI_ge hkn (by omega)), z_sideOf (by omega), Option.bind_some, z_sideOf (by omega), Option.bind_some, a1, (H p hp).1]
    unfold t_X12_front_79
    rw [nI_1]
    by_cases c1 : a k = a p
    · rw [if_pos (by rw [c1]), z_placeOf (by omega), Option.bind_some, a2]
      by_cases c2 : q p ≤ q k
      · rw [if_pos (nI_le c2 (by omega))]
        exact ih (k + 1) fu σ (by omega) (by omega) h3 (fun i hi => ⟨(H i hi).1, keep (by unfold z_qf; rw [if_neg (fun x => by omega)]) i hi⟩)
      · rw [if_neg (nI_ge (by omega) (by omega)), z_ix13, t_ai_in (by omega) (by decide), Option.bind_some, a2, nI_1, t_si_in (by omega) (by decide), Option.bind_some]
        obtain ⟨s', x1, x2, x3⟩ := ih (k + 1) fu (r_sa σ 20 (upd (r_A σ 20) (13 + 5 * k) (nI (q k + 1)))) (by omega) (by omega) (by rw [z_rA, pk_un (by omega)]; exact h3) (fun i hi => ⟨by rw [z_rA, pk_un (by omega)]; exact (H i hi).1, by
            rw [z_rA]
            by_cases e : i = k
            · subst e
              rw [pk_us, if_pos (Nat.lt_succ_self i)]
              unfold z_qf
              rw [if_pos ⟨c1, by omega⟩]
            · rw [pk_un (by omega), (H i hi).2]
              by_cases e2 : i < k
              · rw [if_pos e2, if_pos (by omega)]
              · rw [if_neg e2, if_neg (by omega)]⟩)
        rw [z_rsa2] at x1
        exact ⟨s', x1, x2, fun j hj => by rw [x3 j hj, z_rA, pk_un (hj k hkn)]⟩
    · rw [if_neg (fun x => c1 ((nI_eq (by omega) (by omega)).mp x))]
      exact ih (k + 1) fu σ (by omega) (by omega) h3 (fun i hi => ⟨(H i hi).1, keep (by unfold z_qf; rw [if_neg (fun x => c1 x.1)]) i hi⟩)
/-- others on the other side -/
theorem z_oth (ha : ∀ i, i < n → a i ≤ 1) (hp : p < n) : z_c (fun i => decide (¬ a i = a p)) n = z_cn a (1 - a p) n := z_c_ext (fun i hi => by
  have h1 := ha i hi
  have h2 := ha p hp
  by_cases e : a i = a p
  · rw [decide_eq_false (fun x => x e), decide_eq_false (by omega)]
  · rw [decide_eq_true e, decide_eq_true (by omega)])
end SF
