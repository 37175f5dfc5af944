/-! ===== L3: BY STRENGTH: FAIR, SWINGS, SHARES, FEWEST, NEEDED ===== -/
def z_wt (st : Nat → Nat) (m : Nat) : Nat → Nat
  | 0 => 0
  | k + 1 => z_wt st m k + (if m.testBit k then st k else 0)
theorem z_wt_le {st : Nat → Nat} {m n : Nat} (h : ∀ p, p < n → st p ≤ 40) : ∀ k, k ≤ n → z_wt st m k ≤ 40 * k
  | 0, _ => Nat.le_refl _
  | k + 1, hk => by
    have h1 := z_wt_le h (m := m) k (by omega)
    have h2 := h k (by omega)
    rw [z_wt]
    split <;> omega
theorem z_wt_not {st : Nat → Nat} {m n : Nat} (hm : m < 2 ^ n) : ∀ k, k ≤ n → z_wt st (2 ^ n - 1 - m) k + z_wt st m k = z_wt st (2 ^ n - 1) k
  | 0, _ => rfl
  | k + 1, hk => by
    have h1 := z_wt_not (st := st) hm k (by omega)
    rw [z_wt, z_wt, z_wt, show 2 ^ n - 1 - m = 2 ^ n - (m + 1) by omega, Nat.testBit_two_pow_sub_succ hm, Nat.testBit_two_pow_sub_one, decide_eq_true (show k < n by omega)]
    rw [show 2 ^ n - 1 - m = 2 ^ n - (m + 1) by omega] at h1
    cases m.testBit k <;> simp <;> omega
theorem z_isOf : ∀ m, m < 256 → ∀ p, p < 8 → m_X12_isOf (nI m) (nI p) = some (if m.testBit p then 1 else 0) := by decide +kernel
theorem z_nset : ∀ n, n < 9 → ∀ m, m < 256 → m < 2 ^ n → nI (2 ^ n - 1) &&& (nI m ^^^ (-1)) = nI (2 ^ n - 1 - m) := by decide +kernel
section ST
variable {o : g_S} {σ : r_S} {n : Nat} {st : Nat → Nat}
/-- the STRONG numbers, on both sides -/
def z_st (o : g_S) (σ : r_S) (n : Nat) (st : Nat → Nat) : Prop := n ≤ 8 ∧ g_I o 3 = nI n ∧ r_A σ 20 3 = nI n ∧ ∀ p, p < n → 1 ≤ st p ∧ st p ≤ 40 ∧ g_A o 5 p = nI (st p) ∧ r_A σ 20 (52 + p) = nI (st p)
theorem z_st_of (hR : z_R (r_A σ 20) n) (ho : z_o o (r_A σ 20) n) : ∃ st, z_st o σ n st := by
  have h : ∀ p, ∃ w, p < n → 1 ≤ w ∧ w ≤ 40 ∧ r_A σ 20 (52 + p) = nI w := fun p => by
    by_cases hp : p < n
    · obtain ⟨w, a, b, c⟩ := (hR.2.2.2.2.2.2 p hp).2.1
      exact ⟨w, fun _ => ⟨a, b, c⟩⟩
    · exact ⟨0, fun e => absurd e hp⟩
  obtain ⟨st, hst⟩ := Classical.axiomOfChoice h
  exact ⟨st, hR.1, ho.1, hR.2.2.1, fun p hp => ⟨(hst p hp).1, (hst p hp).2.1, by rw [(ho.2.2.2.2 p hp).2.1]; exact (hst p hp).2.2, (hst p hp).2.2⟩⟩
theorem z_wtC (H : z_st o σ n st) {m : Nat} (hm : m < 256) : ∀ (d k fu : Nat), k + d = n → d < fu → t_X4_weightOf_4 fu o (nI m) (nI (z_wt st m k)) (nI k) = some (nI (z_wt st m n)) := by
  obtain ⟨hn, h3, -, hA⟩ := H
  intro d
  induction d with
  | zero =>
    intro k fu hk hf
    obtain ⟨fu, rfl⟩ := Nat.exists_eq_succ_of_ne_zero (show fu ≠ 0 by omega)
    obtain rfl : k = n := hk
    rw [t_X4_weightOf_4]
    try dsimp only
    rw [h3, if_pos (nI_le (Nat.le_refl _) (by omega))]
  | succ d ih =>
    intro k fu hk hf
    obtain ⟨fu, rfl⟩ := Nat.exists_eq_succ_of_ne_zero (show fu ≠ 0 by omega)
    have ih := ih (k + 1) fu (by omega) (by omega)
    rw [z_wt] at ih
    rw [t_X4_weightOf_4]
    try dsimp only
    rw [h3, if_neg (nI_ge (show k < n by omega) (by omega)), t_ai_in (by omega) (by decide), Option.bind_some, (hA k (by omega)).2.2.1, t_X4_weightOf_30, t_X4_weightOf_30, nI_add, nI_1]
    by_cases c : m.testBit k = true
    · rw [if_pos ((z_tst m hm k (by omega)).mpr c)]
      rw [if_pos c] at ih
      exact ih
    · rw [if_neg (fun e => c ((z_tst m hm k (by omega)).mp e))]
      rw [if_neg c] at ih
      exact ih
theorem z_weightOf (H : z_st o σ n st) {m : Nat} (hm : m < 256) : t_X4_weightOf o (nI m) = some (nI (z_wt st m n)) := by
  have hn := H.1
  exact z_wtC H hm n 0 q_fu (by omega) (by show n < 5000; omega)
theorem z_wtR (H : z_st o σ n st) {m : Nat} (hm : m < 256) : ∀ (d k fu : Nat), k + d = n → d < fu → t_X12_strongOf_4 fu σ (nI m) (nI (z_wt st m k)) (nI k) = some (nI (z_wt st m n)) := by
  obtain ⟨hn, -, h3, hA⟩ := H
  intro d
  induction d with
  | zero =>
    intro k fu hk hf
    obtain ⟨fu, rfl⟩ := Nat.exists_eq_succ_of_ne_zero (show fu ≠ 0 by omega)
    obtain rfl : k = n := hk
    rw [t_X12_strongOf_4, z_a3, Option.bind_some, h3, if_pos (nI_le (Nat.le_refl _) (by omega))]
  | succ d ih =>
    intro k fu hk hf
    obtain ⟨fu, rfl⟩ := Nat.exists_eq_succ_of_ne_zero (show fu ≠ 0 by omega)
    have ih := ih (k + 1) fu (by omega) (by omega)
    rw [z_wt] at ih
    rw [t_X12_strongOf_4, z_a3, Option.bind_some, h3, if_neg (nI_ge (show k < n by omega) (by omega)), z_isOf m hm k (by omega), Option.bind_some, z_k52, t_ai_in (by omega) (by decide), Option.bind_some, (hA k (by omega)).2.2.2, t_X12_strongOf_36, t_X12_strongOf_36, nI_add, nI_1, Int32.add_zero]
    by_cases c : m.testBit k = true
    · rw [if_pos c, if_neg (by decide)]
      rw [if_pos c] at ih
      exact ih
    · rw [if_neg c, if_pos rfl]
      rw [if_neg c] at ih
      exact ih
theorem z_strongOf (H : z_st o σ n st) {m : Nat} (hm : m < 256) : t_X12_strongOf σ (nI m) = some (nI (z_wt st m n)) := by
  have hn := H.1
  exact z_wtR H hm n 0 q_fu (by omega) (by show n < 5000; omega)
theorem z_2n (H : z_st o σ n st) : 1 ≤ 2 ^ n ∧ 2 ^ n ≤ 256 := ⟨Nat.pow_pos (by decide), Nat.pow_le_pow_right (n := 2) (by decide) H.1⟩
theorem z_everybody (H : z_st o σ n st) : t_X12_everybody σ = some (nI (2 ^ n - 1)) := by
  have hn := H.1
  unfold t_X12_everybody
  rw [z_a3, Option.bind_some, H.2.2.1, z_all n (by omega)]
theorem z_everyC (H : z_st o σ n st) : t_X4_everyone o = some (nI (2 ^ n - 1)) := z_everyone H.1 H.2.1
/-- whether a set outweighs -/
def z_ow (st : Nat → Nat) (n m : Nat) : Bool := decide (z_wt st (2 ^ n - 1) n < 2 * z_wt st m n)
theorem z_outC (H : z_st o σ n st) {m : Nat} (hm : m < 2 ^ n) : t_X4_outweighs o (nI m) = some (if z_ow st n m then 1 else 0) ∧ t_X12_outweighs σ (nI m) = some (if z_ow st n m then 1 else 0) := by
  obtain ⟨e1, e2⟩ := z_2n H
  have hn := H.1
  have w1 := z_wt_le (m := m) (fun p hp => (H.2.2.2 p hp).2.1) n (Nat.le_refl _)
  have w2 := z_wt_le (m := 2 ^ n - 1) (fun p hp => (H.2.2.2 p hp).2.1) n (Nat.le_refl _)
  have w3 := z_wt_not (st := st) hm n (Nat.le_refl _)
  constructor
  · unfold t_X4_outweighs
    rw [z_weightOf H (show m < 256 by omega), Option.bind_some, z_everyC H, Option.bind_some, z_weightOf H (show 2 ^ n - 1 < 256 by omega), Option.bind_some, show (2 : Int32) * nI (z_wt st m n) = nI (2 * z_wt st m n) from pk_mul 2 _]
    unfold z_ow
    by_cases c : z_wt st (2 ^ n - 1) n < 2 * z_wt st m n
    · rw [if_neg (nI_ge c (by omega)), if_pos (decide_eq_true c)]
    · rw [if_pos (nI_le (by omega) (by omega)), if_neg (fun e => c (of_decide_eq_true e))]
  · unfold t_X12_outweighs
    rw [z_strongOf H (show m < 256 by omega), Option.bind_some, z_everybody H, Option.bind_some, z_nset n (by omega) m (by omega) hm, z_strongOf H (show 2 ^ n - 1 - m < 256 by omega), Option.bind_some]
    unfold z_ow
    by_cases c : z_wt st (2 ^ n - 1) n < 2 * z_wt st m n
    · rw [if_neg (nI_ge (by omega) (by omega)), if_pos (decide_eq_true c)]
    · rw [if_pos (nI_le (by omega) (by omega)), if_neg (fun e => c (of_decide_eq_true e))]
def z_ap (st : Nat → Nat) (n m : Nat) : Nat := if 2 * z_wt st m n ≤ z_wt st (2 ^ n - 1) n then z_wt st (2 ^ n - 1) n - 2 * z_wt st m n else 2 * z_wt st m n - z_wt st (2 ^ n - 1) n
theorem z_absd {a c : Nat} (ha : a < 2 ^ 30) (hc : c < 2 ^ 30) : (if 0 ≤ nI a - nI c then nI a - nI c else 0 - (nI a - nI c)) = nI (if c ≤ a then a - c else c - a) := by
  by_cases e : c ≤ a
  · rw [if_pos e, pk_sub e, if_pos (nI_pos' (by omega))]
  · rw [if_neg e, if_neg (fun h => Int32.not_le.mpr (pk_sneg hc (by omega)) h), Int32.zero_sub, Int32.neg_sub, pk_sub (by omega)]
theorem z_apC (H : z_st o σ n st) {m : Nat} (hm : m < 2 ^ n) : t_X4_differenceBy o (nI m) = some (nI (z_ap st n m)) ∧ t_X12_apart σ (nI m) = some (nI (z_ap st n m)) ∧ z_ap st n m ≤ 960 := by
  obtain ⟨e1, e2⟩ := z_2n H
  have hn := H.1
  have w1 := z_wt_le (m := m) (fun p hp => (H.2.2.2 p hp).2.1) n (Nat.le_refl _)
  have w2 := z_wt_le (m := 2 ^ n - 1) (fun p hp => (H.2.2.2 p hp).2.1) n (Nat.le_refl _)
  have w3 := z_wt_not (st := st) hm n (Nat.le_refl _)
  refine ⟨?_, ?_, ?_⟩
  · unfold t_X4_differenceBy z_ap
    rw [z_everyC H, Option.bind_some, z_weightOf H (show 2 ^ n - 1 < 256 by omega), Option.bind_some, z_weightOf H (show m < 256 by omega), Option.bind_some, show (2 : Int32) * nI (z_wt st m n) = nI (2 * z_wt st m n) from pk_mul 2 _, z_absd (by omega) (by omega)]
  · unfold t_X12_apart z_ap
    rw [z_strongOf H (show m < 256 by omega), Option.bind_some, z_everybody H, Option.bind_some, z_nset n (by omega) m (by omega) hm, z_strongOf H (show 2 ^ n - 1 - m < 256 by omega), Option.bind_some]
    have h := z_absd (a := z_wt st m n) (c := z_wt st (2 ^ n - 1 - m) n) (by omega) (by omega)
    have e : (if z_wt st (2 ^ n - 1 - m) n ≤ z_wt st m n then z_wt st m n - z_wt st (2 ^ n - 1 - m) n else z_wt st (2 ^ n - 1 - m) n - z_wt st m n) = (if 2 * z_wt st m n ≤ z_wt st (2 ^ n - 1) n then z_wt st (2 ^ n - 1) n - 2 * z_wt st m n else 2 * z_wt st m n - z_wt st (2 ^ n - 1) n) := by
      split <;> split <;> omega
    rw [e] at h
    by_cases c : 0 ≤ nI (z_wt st m n) - nI (z_wt st (2 ^ n - 1 - m) n)
    · rw [if_pos c] at h ⊢
      rw [h]
    · rw [if_neg c] at h ⊢
      rw [h]
  · unfold z_ap
    split <;> omega
/-! FAIR -/
theorem z_fairL (H : z_st o σ n st) (wh : Int32) : ∀ (d m best fu fu' : Nat), m + d = 2 ^ n → d < fu → d < fu' → 1 ≤ m → best < 2 ^ n → ∃ w, w < 2 ^ n ∧ t_X4_fairestSet_10 fu o (nI best) (nI (z_ap st n best)) (nI m) = some (nI w) ∧ t_X12_fair_23 fu' σ wh (nI best) (nI m) = some (if wh = 0 then nI (z_ap st n w) else nI w) := by
  obtain ⟨e1, e2⟩ := z_2n H
  intro d
  induction d with
  | zero =>
    intro m best fu fu' hm hf hf' h1 hb
    obtain ⟨fu, rfl⟩ := Nat.exists_eq_succ_of_ne_zero (show fu ≠ 0 by omega)
    obtain ⟨fu', rfl⟩ := Nat.exists_eq_succ_of_ne_zero (show fu' ≠ 0 by omega)
    refine ⟨best, hb, ?_, ?_⟩
    · rw [t_X4_fairestSet_10, z_everyC H, Option.bind_some, if_pos (nI_lt (by omega) (by omega))]
    · rw [t_X12_fair_23, z_everybody H, Option.bind_some, if_pos (nI_lt (by omega) (by omega)), (z_apC H hb).2.1, Option.bind_some]
      split <;> rfl
  | succ d ih =>
    intro m best fu fu' hm hf hf' h1 hb
    obtain ⟨fu, rfl⟩ := Nat.exists_eq_succ_of_ne_zero (show fu ≠ 0 by omega)
    obtain ⟨fu', rfl⟩ := Nat.exists_eq_succ_of_ne_zero (show fu' ≠ 0 by omega)
    obtain ⟨a1, a2, a3⟩ := z_apC H (show m < 2 ^ n by omega)
    obtain ⟨b1, b2, b3⟩ := z_apC H hb
    have eA : t_X4_fairestSet_10 (fu + 1) o (nI best) (nI (z_ap st n best)) (nI m) = if nI (z_ap st n best) ≤ nI (z_ap st n m) then t_X4_fairestSet_10 fu o (nI best) (nI (z_ap st n best)) (nI (m + 1)) else t_X4_fairestSet_10 fu o (nI m) (nI (z_ap st n m)) (nI (m + 1)) := by
      rw [t_X4_fairestSet_10, z_everyC H, Option.bind_some, if_neg (nI_nlt (show m ≤ 2 ^ n - 1 by omega) (by omega)), a1, Option.bind_some, t_X4_fairestSet_36, t_X4_fairestSet_36, nI_1]
    have eB : t_X12_fair_23 (fu' + 1) σ wh (nI best) (nI m) = if nI (z_ap st n best) ≤ nI (z_ap st n m) then t_X12_fair_23 fu' σ wh (nI best) (nI (m + 1)) else t_X12_fair_23 fu' σ wh (nI m) (nI (m + 1)) := by
      rw [t_X12_fair_23, z_everybody H, Option.bind_some, if_neg (nI_nlt (show m ≤ 2 ^ n - 1 by omega) (by omega)), a2, Option.bind_some, b2, Option.bind_some, t_X12_fair_46, t_X12_fair_46, nI_1]
    by_cases c : nI (z_ap st n best) ≤ nI (z_ap st n m)
    · obtain ⟨w, w1, w2, w3⟩ := ih (m + 1) best fu fu' (by omega) (by omega) (by omega) (by omega) hb
      exact ⟨w, w1, by rw [eA, if_pos c]; exact w2, by rw [eB, if_pos c]; exact w3⟩
    · obtain ⟨w, w1, w2, w3⟩ := ih (m + 1) m fu fu' (by omega) (by omega) (by omega) (by omega) (by omega)
      exact ⟨w, w1, by rw [eA, if_neg c]; exact w2, by rw [eB, if_neg c]; exact w3⟩
theorem z_fair (H : z_st o σ n st) (wh : Int32) : ∃ w, t_X4_fairestSet o = some (nI w) ∧ t_X4_differenceBy o (nI w) = some (nI (z_ap st n w)) ∧ t_X12_fair_23 q_fu σ wh 0 1 = some (if wh = 0 then nI (z_ap st n w) else nI w) := by
  obtain ⟨e1, e2⟩ := z_2n H
  obtain ⟨a1, a2, a3⟩ := z_apC H (show 0 < 2 ^ n by omega)
  obtain ⟨w, w1, w2, w3⟩ := z_fairL H wh (2 ^ n - 1) 1 0 q_fu q_fu (by omega) (by show _ < 5000; omega) (by show _ < 5000; omega) (by omega) (by omega)
  refine ⟨w, ?_, (z_apC H w1).1, w3⟩
  unfold t_X4_fairestSet
  rw [show t_X4_differenceBy o 0 = _ from a1, Option.bind_some]
  exact w2
/-! SWINGS and SHARES -/
theorem z_bit0 : ∀ m, m < 256 → ∀ p, p < 8 → ((nI m &&& ((1 : Int32) <<< (nI p &&& 31)) = 0) ↔ m.testBit p = false) := by decide +kernel
theorem z_rows : ∀ a, a < 8 → m_X12_rowsOf (nI a) = some (q_rows a) := by decide +kernel
theorem z_pcn : ∀ n, n < 9 → ∀ m, m < 256 → m < 2 ^ n → ∀ p, p < n → m.testBit p = false → z_c m.testBit 8 < n := by decide +kernel
theorem z_rowsC (H : z_st o σ n st) {a : Nat} (ha : a < n) : t_X4_rowsWithAhead o (nI a) = some (q_rows a * q_rows (n - 1 - a)) := by
  have hn := H.1
  have e : nI n - 1 - nI a = nI (n - 1 - a) := by rw [show nI n - 1 = nI (n - 1) from pk_sub (b := 1) (by omega), pk_sub (by omega)]
  have ro : ∀ j, j < 8 → q_ro (nI j) = some (q_rows j) := fun j hj => by
    unfold q_ro
    rw [if_pos (show q_in (nI j) 8 from vp_in_nI hj (by decide)), nI_clamp (by omega)]
  unfold t_X4_rowsWithAhead
  try dsimp only
  rw [H.2.1, e, if_neg (nI_pos (by omega)), if_neg (show ¬ (8 : Int32) ≤ nI a from nI_ge (b := 8) (by omega) (by decide)), if_neg (nI_pos (by omega)), if_neg (show ¬ (8 : Int32) ≤ nI (n - 1 - a) from nI_ge (b := 8) (by omega) (by decide)), t_X4_rowsWithAhead_38, if_neg (by decide), ro a (by omega), Option.bind_some, ro _ (by omega), Option.bind_some]
/-- who tips it -/
def z_sw (st : Nat → Nat) (n m p : Nat) : Bool := !m.testBit p && (!z_ow st n m && z_ow st n (m ||| 2 ^ p))
theorem z_swR (H : z_st o σ n st) {m p : Nat} (hm : m < 2 ^ n) (hp : p < n) : t_X12_isSwing σ (nI m) (nI p) = some (if z_sw st n m p then 1 else 0) := by
  obtain ⟨e1, e2⟩ := z_2n H
  have hn := H.1
  have hor : m ||| 2 ^ p < 2 ^ n := Nat.or_lt_two_pow hm (Nat.pow_lt_pow_right (by decide) hp)
  unfold t_X12_isSwing
  rw [z_isOf m (by omega) p (by omega), Option.bind_some, (z_outC H hm).2, Option.bind_some, z_one p (by omega), z_or, (z_outC H hor).2, Option.bind_some]
  unfold z_sw
  cases m.testBit p <;> cases z_ow st n m <;> cases z_ow st n (m ||| 2 ^ p) <;> rfl
theorem z_tipsL (H : z_st o σ n st) {p : Nat} (hp : p < n) (rows : Bool) : ∀ (d m fu fu' : Nat) (t : Int32), m + d = 2 ^ n → d < fu → d < fu' → ∃ r, t_X4_tipsBy_10 fu o (if rows then 1 else 0) ((1 : Int32) <<< (nI p &&& 31)) t (nI m) = some r ∧ (if rows then t_X12_shares_14 fu' σ (nI p) t (nI m) else t_X12_swings_14 fu' σ (nI p) t (nI m)) = some r := by
  obtain ⟨e1, e2⟩ := z_2n H
  have hn := H.1
  intro d
  induction d with
  | zero =>
    intro m fu fu' t hm hf hf'
    obtain ⟨fu, rfl⟩ := Nat.exists_eq_succ_of_ne_zero (show fu ≠ 0 by omega)
    obtain ⟨fu', rfl⟩ := Nat.exists_eq_succ_of_ne_zero (show fu' ≠ 0 by omega)
    refine ⟨t, ?_, ?_⟩
    · rw [t_X4_tipsBy_10, z_everyC H, Option.bind_some, if_pos (nI_lt (by omega) (by omega))]
    · cases rows
      · rw [if_neg (by decide), t_X12_swings_14, z_everybody H, Option.bind_some, if_pos (nI_lt (by omega) (by omega))]
      · rw [if_pos rfl, t_X12_shares_14, z_everybody H, Option.bind_some, if_pos (nI_lt (by omega) (by omega))]
  | succ d ih =>
    intro m fu fu' t hm hf hf'
    obtain ⟨fu, rfl⟩ := Nat.exists_eq_succ_of_ne_zero (show fu ≠ 0 by omega)
    obtain ⟨fu', rfl⟩ := Nat.exists_eq_succ_of_ne_zero (show fu' ≠ 0 by omega)
    have hm2 : m < 2 ^ n := by omega
    have hor : m ||| 2 ^ p < 2 ^ n := Nat.or_lt_two_pow hm2 (Nat.pow_lt_pow_right (by decide) hp)
    have hlast : ¬ nI (2 ^ n - 1) < nI m := nI_nlt (show m ≤ 2 ^ n - 1 by omega) (by omega)
    -- what a set gives
    obtain ⟨v, hv⟩ : ∃ v : Int32, v = if rows then q_rows (z_c m.testBit 8) * q_rows (n - 1 - z_c m.testBit 8) else 1 := ⟨_, rfl⟩
    have eA : t_X4_tipsBy_10 (fu + 1) o (if rows then 1 else 0) ((1 : Int32) <<< (nI p &&& 31)) t (nI m) = t_X4_tipsBy_10 fu o (if rows then 1 else 0) ((1 : Int32) <<< (nI p &&& 31)) (if z_sw st n m p then t + v else t) (nI (m + 1)) := by
      rw [t_X4_tipsBy_10, z_everyC H, Option.bind_some, if_neg hlast]
      unfold z_sw
      by_cases c1 : m.testBit p = true
      · rw [if_neg (fun e => by have := (z_bit0 m (by omega) p (by omega)).mp e; rw [c1] at this; cases this), t_X4_tipsBy_68, nI_1, c1]
        rfl
      · have c1' := Bool.eq_false_iff.mpr c1
        rw [if_pos ((z_bit0 m (by omega) p (by omega)).mpr c1'), (z_outC H hm2).1, Option.bind_some]
        by_cases c2 : z_ow st n m = true
        · rw [if_pos c2, if_neg (by decide), t_X4_tipsBy_68, nI_1, c2]
          simp
        · rw [if_neg c2, if_pos rfl, z_one p (by omega), z_or, (z_outC H hor).1, Option.bind_some]
          by_cases c3 : z_ow st n (m ||| 2 ^ p) = true
          · rw [if_pos c3, if_neg (by decide)]
            rw [show (!m.testBit p && (!z_ow st n m && z_ow st n (m ||| 2 ^ p))) = true by rw [c1', c3, Bool.eq_false_iff.mpr c2]; rfl, if_pos rfl]
            cases rows
            · rw [if_pos (show (if false = true then (1 : Int32) else 0) = 0 by decide), t_X4_tipsBy_65, t_X4_tipsBy_68, nI_1, hv]
              rfl
            · rw [if_pos rfl, if_neg (by decide), z_bitc m (by omega), Option.bind_some, z_rowsC H (z_pcn n (by omega) m (by omega) hm2 p hp c1'), Option.bind_some, t_X4_tipsBy_65, t_X4_tipsBy_68, nI_1, hv]
              rfl
          · rw [if_neg c3, if_pos rfl, t_X4_tipsBy_68, nI_1]
            rw [show (!m.testBit p && (!z_ow st n m && z_ow st n (m ||| 2 ^ p))) = false by rw [Bool.eq_false_iff.mpr c3]; simp]
            rfl
    obtain ⟨r, b1, b2⟩ := ih (m + 1) fu fu' (if z_sw st n m p then t + v else t) (by omega) (by omega) (by omega)
    refine ⟨r, eA.trans b1, ?_⟩
    cases rows
    · rw [if_neg (by decide)] at b2 ⊢
      rw [t_X12_swings_14, z_everybody H, Option.bind_some, if_neg hlast, z_swR H hm2 hp, Option.bind_some, t_X12_swings_37, t_X12_swings_37, nI_1, Int32.add_zero]
      by_cases cs : z_sw st n m p = true
      · rw [if_pos cs, if_neg (by decide)]
        rw [if_pos cs, hv, if_neg (by decide)] at b2
        exact b2
      · rw [if_neg cs, if_pos rfl]
        rw [if_neg cs] at b2
        exact b2
    · rw [if_pos rfl] at b2 ⊢
      rw [t_X12_shares_14, z_everybody H, Option.bind_some, if_neg hlast, z_swR H hm2 hp, Option.bind_some, t_X12_shares_58, nI_1]
      by_cases cs : z_sw st n m p = true
      · have c1' : m.testBit p = false := by
          unfold z_sw at cs
          cases hb : m.testBit p
          · rfl
          · rw [hb] at cs; simp at cs
        have hlt := z_pcn n (by omega) m (by omega) hm2 p hp c1'
        rw [if_pos cs, if_neg (by decide), z_bits m (by omega), Option.bind_some, z_rows _ (by omega), Option.bind_some, z_a3, Option.bind_some, H.2.2.1, Option.bind_some, show nI n - 1 - nI (z_c m.testBit 8) = nI (n - 1 - z_c m.testBit 8) by rw [show nI n - 1 = nI (n - 1) from pk_sub (b := 1) (by omega), pk_sub (by omega)], z_rows _ (by omega), Option.bind_some, t_X12_shares_58, nI_1]
        rw [if_pos cs, hv, if_pos rfl] at b2
        exact b2
      · rw [if_neg cs, if_pos rfl]
        rw [if_neg cs] at b2
        exact b2
end ST
