/-! ===== L3: FEWEST and NEEDED ===== -/
section FW
variable {o : g_S} {σ : r_S} {n : Nat} {st : Nat → Nat}
def z_pc (m : Nat) : Nat := z_c m.testBit 8
theorem z_pc_le (m : Nat) : z_pc m ≤ 8 := z_c_le _ 8
/-- the fewest who outweigh, the least set of those, among the sets from lo to hi -/
def z_fw (st : Nat → Nat) (n lo hi r : Nat) : Prop := z_ow st n r = true ∧ r < 2 ^ n ∧ ∀ m, lo ≤ m → m < hi → z_ow st n m = true → z_pc r < z_pc m ∨ (z_pc r = z_pc m ∧ r ≤ m)
theorem z_fwC (H : z_st o σ n st) : ∀ (k fu best : Nat), k ≤ 2 ^ n → k < fu → z_fw st n k (2 ^ n) best → ∃ r, t_X4_smallestSet_10 fu o (nI best) (nI k + (-1)) = some (nI r) ∧ z_fw st n 0 (2 ^ n) r := by
  obtain ⟨e1, e2⟩ := z_2n H
  intro k
  induction k with
  | zero =>
    intro fu best hk hf hb
    obtain ⟨fu, rfl⟩ := Nat.exists_eq_succ_of_ne_zero (show fu ≠ 0 by omega)
    refine ⟨best, ?_, hb⟩
    rw [t_X4_smallestSet_10, if_pos (by decide)]
  | succ k ih =>
    intro fu best hk hf hb
    obtain ⟨fu, rfl⟩ := Nat.exists_eq_succ_of_ne_zero (show fu ≠ 0 by omega)
    have p1 := z_pc_le k
    have p2 := z_pc_le best
    have hbl := hb.2.1
    have eA : t_X4_smallestSet_10 (fu + 1) o (nI best) (nI (k + 1) + (-1)) = if nI (z_pc best) < nI (z_pc k) then t_X4_smallestSet_10 fu o (nI best) (nI k + (-1)) else if (if z_ow st n k then (1 : Int32) else 0) = 0 then t_X4_smallestSet_10 fu o (nI best) (nI k + (-1)) else t_X4_smallestSet_10 fu o (nI k) (nI k + (-1)) := by
      rw [t_X4_smallestSet_10, pk_m1, if_neg (nI_pos (by omega)), z_bitc k (by omega), Option.bind_some, z_bitc best (by omega), Option.bind_some, (z_outC H (show k < 2 ^ n by omega)).1, Option.bind_some, t_X4_smallestSet_35, t_X4_smallestSet_35]
      rfl
    by_cases c1 : z_pc best < z_pc k
    · obtain ⟨r, a1, a2⟩ := ih fu best (by omega) (by omega) ⟨hb.1, hb.2.1, fun m h1 h2 h3 => by
        by_cases e : m = k
        · rw [e]; exact Or.inl c1
        · exact hb.2.2 m (by omega) h2 h3⟩
      exact ⟨r, by rw [eA, if_pos (nI_lt c1 (by omega))]; exact a1, a2⟩
    · rw [if_neg (nI_nlt (by omega) (by omega))] at eA
      by_cases c2 : z_ow st n k = true
      · obtain ⟨r, a1, a2⟩ := ih fu k (by omega) (by omega) ⟨c2, by omega, fun m h1 h2 h3 => by
          by_cases e : m = k
          · rw [e]; exact Or.inr ⟨rfl, Nat.le_refl _⟩
          · rcases hb.2.2 m (by omega) h2 h3 with h | h <;> omega⟩
        exact ⟨r, by rw [eA, if_pos c2, if_neg (by decide)]; exact a1, a2⟩
      · obtain ⟨r, a1, a2⟩ := ih fu best (by omega) (by omega) ⟨hb.1, hb.2.1, fun m h1 h2 h3 => by
          by_cases e : m = k
          · rw [e] at h3; exact absurd h3 c2
          · exact hb.2.2 m (by omega) h2 h3⟩
        exact ⟨r, by rw [eA, if_neg c2, if_pos rfl]; exact a1, a2⟩
theorem z_fwR (H : z_st o σ n st) (wh : Int32) : ∀ (d m fu : Nat) (best : Int32), m + d = 2 ^ n → d < fu → ((best = -1 ∧ ∀ q, q < m → ¬ z_ow st n q = true) ∨ ∃ r, best = nI r ∧ r < m ∧ z_fw st n 0 m r) → ((t_X12_fewest_23 fu σ wh best (nI m) = some (-2) ∧ ∀ q, q < 2 ^ n → ¬ z_ow st n q = true) ∨ ∃ r, z_fw st n 0 (2 ^ n) r ∧ t_X12_fewest_23 fu σ wh best (nI m) = some (if wh = 0 then nI (z_pc r) else nI r)) := by
  obtain ⟨e1, e2⟩ := z_2n H
  intro d
  induction d with
  | zero =>
    intro m fu best hm hf hb
    obtain ⟨fu, rfl⟩ := Nat.exists_eq_succ_of_ne_zero (show fu ≠ 0 by omega)
    obtain rfl : m = 2 ^ n := hm
    rcases hb with ⟨rfl, h⟩ | ⟨r, rfl, h1, h2⟩
    · refine Or.inl ⟨?_, h⟩
      rw [t_X12_fewest_23, z_everybody H, Option.bind_some, if_pos (nI_lt (by omega) (by omega)), if_neg (by decide)]
    · refine Or.inr ⟨r, h2, ?_⟩
      rw [t_X12_fewest_23, z_everybody H, Option.bind_some, if_pos (nI_lt (by omega) (by omega)), if_pos (nI_pos' (by omega)), z_bits r (by omega), Option.bind_some]
      unfold z_pc
      split <;> rfl
  | succ d ih =>
    intro m fu best hm hf hb
    obtain ⟨fu, rfl⟩ := Nat.exists_eq_succ_of_ne_zero (show fu ≠ 0 by omega)
    have p1 := z_pc_le m
    have hlast : ¬ nI (2 ^ n - 1) < nI m := nI_nlt (show m ≤ 2 ^ n - 1 by omega) (by omega)
    obtain ⟨XA, hA⟩ : ∃ Z, t_X12_fewest_23 (fu + 1) σ wh best (nI m) = Z := ⟨_, rfl⟩
    have eA := hA
    rw [t_X12_fewest_23, z_everybody H, Option.bind_some, if_neg hlast, (z_outC H (show m < 2 ^ n by omega)).2, Option.bind_some, z_bits m (by omega), Option.bind_some, t_X12_fewest_54, t_X12_fewest_56, t_X12_fewest_56, nI_1] at eA
    rw [hA, ← eA]
    by_cases c1 : z_ow st n m = true
    · rw [if_pos c1, if_neg (by decide)]
      rcases hb with ⟨rfl, h⟩ | ⟨r, rfl, h1, h2⟩
      · rw [if_pos (by decide)]
        exact ih (m + 1) fu (nI m) (by omega) (by omega) (Or.inr ⟨m, rfl, by omega, c1, by omega, fun q a1 a2 a3 => by
          by_cases e : q = m
          · rw [e]; exact Or.inr ⟨rfl, Nat.le_refl _⟩
          · exact absurd a3 (h q (by omega))⟩)
      · rw [if_neg (nI_pos (by omega)), z_bits r (by omega), Option.bind_some]
        have p2 := z_pc_le r
        show (if nI (z_pc r) ≤ nI (z_pc m) then _ else _) = _ ∧ _ ∨ ∃ r_1, _ ∧ (if nI (z_pc r) ≤ nI (z_pc m) then _ else _) = _
        by_cases c2 : z_pc r ≤ z_pc m
        · rw [if_pos (nI_le c2 (by omega))]
          exact ih (m + 1) fu (nI r) (by omega) (by omega) (Or.inr ⟨r, rfl, by omega, h2.1, h2.2.1, fun q a1 a2 a3 => by
            by_cases e : q = m
            · rw [e]; omega
            · exact h2.2.2 q (by omega) (by omega) a3⟩)
        · rw [if_neg (nI_ge (by omega) (by omega))]
          exact ih (m + 1) fu (nI m) (by omega) (by omega) (Or.inr ⟨m, rfl, by omega, c1, by omega, fun q a1 a2 a3 => by
            by_cases e : q = m
            · rw [e]; exact Or.inr ⟨rfl, Nat.le_refl _⟩
            · have := h2.2.2 q (by omega) (by omega) a3
              omega⟩)
    · rw [if_neg c1, if_pos rfl]
      refine ih (m + 1) fu best (by omega) (by omega) ?_
      rcases hb with ⟨rfl, h⟩ | ⟨r, rfl, h1, h2⟩
      · exact Or.inl ⟨rfl, fun q hq => by
          by_cases e : q = m
          · rw [e]; exact c1
          · exact h q (by omega)⟩
      · exact Or.inr ⟨r, rfl, by omega, h2.1, h2.2.1, fun q a1 a2 a3 => by
          by_cases e : q = m
          · rw [e] at a3; exact absurd a3 c1
          · exact h2.2.2 q (by omega) (by omega) a3⟩
theorem z_fw_one {r r' : Nat} (h : z_fw st n 0 (2 ^ n) r) (h' : z_fw st n 0 (2 ^ n) r') : r = r' := by
  have a := h.2.2 r' (by omega) h'.2.1 h'.1
  have b := h'.2.2 r (by omega) h.2.1 h.1
  omega
theorem z_wt_pos {st : Nat → Nat} {n : Nat} (h : ∀ p, p < n → 1 ≤ st p) : ∀ k, k ≤ n → k ≤ z_wt st (2 ^ n - 1) k
  | 0, _ => Nat.le_refl _
  | k + 1, hk => by
    have h1 := z_wt_pos h k (by omega)
    have h2 := h k (by omega)
    rw [z_wt, Nat.testBit_two_pow_sub_one, decide_eq_true (show k < n by omega), if_pos rfl]
    omega
theorem z_fewest (H : z_st o σ n st) (wh : Int32) (hn0 : 0 < n) : ∃ r, r < 256 ∧ t_X4_smallestSet o = some (nI r) ∧ t_X12_fewest_23 q_fu σ wh (-1) 0 = some (if wh = 0 then nI (z_pc r) else nI r) := by
  obtain ⟨e1, e2⟩ := z_2n H
  have hpos := z_wt_pos (fun p hp => (H.2.2.2 p hp).1) n (Nat.le_refl _)
  have hO : z_ow st n (2 ^ n - 1) = true := decide_eq_true (by omega)
  obtain ⟨r, a1, a2⟩ := z_fwC H (2 ^ n) q_fu (2 ^ n - 1) (Nat.le_refl _) (by show _ < 5000; omega) ⟨hO, by omega, fun m h1 h2 _ => by omega⟩
  rcases z_fwR H wh (2 ^ n) 0 q_fu (-1) (by omega) (by show _ < 5000; omega) (Or.inl ⟨rfl, fun q hq => absurd hq (Nat.not_lt_zero _)⟩) with ⟨-, h⟩ | ⟨r', b1, b2⟩
  · exact absurd hO (h _ (by omega))
  · refine ⟨r, by have := a2.2.1; omega, ?_, ?_⟩
    · unfold t_X4_smallestSet
      rw [z_everyC H, Option.bind_some, Option.bind_some, show nI (2 ^ n - 1) = nI (2 ^ n) + (-1) by rw [show 2 ^ n = 2 ^ n - 1 + 1 by omega, pk_m1]; rfl]
      rw [show nI (2 ^ n) + (-1) = nI (2 ^ n - 1) by rw [show nI (2 ^ n) = nI (2 ^ n - 1 + 1) by rw [show 2 ^ n - 1 + 1 = 2 ^ n by omega], pk_m1]] at a1 ⊢
      exact a1
    · rw [z_fw_one a2 b1]
      exact b2
theorem z_few0 (H : z_st o σ n st) (wh : Int32) (hn0 : n = 0) : t_X12_fewest_23 q_fu σ wh (-1) 0 = some (-2) := by
  subst hn0
  rcases z_fwR H wh 1 0 q_fu (-1) rfl (by show 1 < 5000; omega) (Or.inl ⟨rfl, fun q hq => absurd hq (Nat.not_lt_zero _)⟩) with ⟨h, -⟩ | ⟨r', b1, -⟩
  · exact h
  · exact absurd (of_decide_eq_true b1.1) (by show ¬ (0 < 2 * 0); omega)
theorem z_needL (H : z_st o σ n st) : ∀ (d k fu fu' : Nat) (x : Int32), k + d = n → d < fu → d < fu' → ∃ r, t_X4_neededSet_4 fu o x (nI k) = some r ∧ t_X12_needed_13 fu' σ x (nI k) = some r := by
  obtain ⟨e1, e2⟩ := z_2n H
  have hn := H.1
  intro d
  induction d with
  | zero =>
    intro k fu fu' x hk hf hf'
    obtain ⟨fu, rfl⟩ := Nat.exists_eq_succ_of_ne_zero (show fu ≠ 0 by omega)
    obtain ⟨fu', rfl⟩ := Nat.exists_eq_succ_of_ne_zero (show fu' ≠ 0 by omega)
    refine ⟨x, ?_, ?_⟩
    · rw [t_X4_neededSet_4]
      try dsimp only
      rw [H.2.1, if_pos (nI_le (by omega) (by omega))]
    · rw [t_X12_needed_13, z_a3, Option.bind_some, H.2.2.1, if_pos (nI_le (by omega) (by omega))]
  | succ d ih =>
    intro k fu fu' x hk hf hf'
    obtain ⟨fu, rfl⟩ := Nat.exists_eq_succ_of_ne_zero (show fu ≠ 0 by omega)
    obtain ⟨fu', rfl⟩ := Nat.exists_eq_succ_of_ne_zero (show fu' ≠ 0 by omega)
    have hm : z_m (fun q => true && (q != k)) n < 2 ^ n := z_m_lt _ n
    have em : nI (2 ^ n - 1) &&& (((1 : Int32) <<< (nI k &&& 31)) ^^^ (-1)) = nI (z_m (fun q => true && (q != k)) n) := by
      rw [← z_m_all n, z_non _ hn (by omega)]
    have eA : t_X4_neededSet_4 (fu + 1) o x (nI k) = t_X4_neededSet_4 fu o (if z_ow st n (z_m (fun q => true && (q != k)) n) then x else x ||| ((1 : Int32) <<< (nI k &&& 31))) (nI (k + 1)) := by
      rw [t_X4_neededSet_4]
      try dsimp only
      rw [H.2.1, if_neg (nI_ge (show k < n by omega) (by omega)), z_everyC H, Option.bind_some, em, (z_outC H hm).1, Option.bind_some, t_X4_neededSet_35, t_X4_neededSet_35, nI_1]
      by_cases c : z_ow st n (z_m (fun q => true && (q != k)) n) = true
      · rw [if_pos c, if_pos c, if_neg (by decide)]
      · rw [if_neg c, if_neg c, if_pos rfl]
    have eB : t_X12_needed_13 (fu' + 1) σ x (nI k) = t_X12_needed_13 fu' σ (if z_ow st n (z_m (fun q => true && (q != k)) n) then x else x ||| ((1 : Int32) <<< (nI k &&& 31))) (nI (k + 1)) := by
      rw [t_X12_needed_13, z_a3, Option.bind_some, H.2.2.1, if_neg (nI_ge (show k < n by omega) (by omega)), z_everybody H, Option.bind_some, em, (z_outC H hm).2, Option.bind_some, t_X12_needed_48, t_X12_needed_48, nI_1, z_or0]
      by_cases c : z_ow st n (z_m (fun q => true && (q != k)) n) = true
      · rw [if_pos c, if_pos c, if_neg (by decide)]
      · rw [if_neg c, if_neg c, if_pos rfl]
    obtain ⟨r, a1, a2⟩ := ih (k + 1) fu fu' _ (by omega) (by omega) (by omega)
    exact ⟨r, eA.trans a1, eB.trans a2⟩
end FW
