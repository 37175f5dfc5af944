/-! ===== L3: counts and masks of PULLERS ===== -/
def z_c (P : Nat → Bool) : Nat → Nat
  | 0 => 0
  | n + 1 => z_c P n + (if P n then 1 else 0)
def z_m (P : Nat → Bool) : Nat → Nat
  | 0 => 0
  | n + 1 => z_m P n + (if P n then 2 ^ n else 0)
theorem z_m_lt (P : Nat → Bool) : ∀ n, z_m P n < 2 ^ n
  | 0 => by simp [z_m]
  | n + 1 => by
    have h := z_m_lt P n
    rw [z_m, Nat.pow_succ]
    split <;> omega
theorem z_m_256 (P : Nat → Bool) {n : Nat} (hn : n ≤ 8) : z_m P n < 256 :=
  Nat.lt_of_lt_of_le (z_m_lt P n) (Nat.pow_le_pow_right (by decide) hn)
theorem z_m_tb (P : Nat → Bool) (p : Nat) : ∀ n, (z_m P n).testBit p = (decide (p < n) && P p) := by
  intro n
  induction n with
  | zero => simp [z_m]
  | succ n ih =>
    rw [z_m]
    by_cases hp : P n = true
    · rw [if_pos hp, Nat.add_comm]
      rcases Nat.lt_trichotomy p n with h | h | h
      · rw [Nat.testBit_two_pow_add_gt h, ih, decide_eq_true h, decide_eq_true (Nat.lt_succ_of_lt h)]
      · subst h
        rw [Nat.testBit_two_pow_add_eq, Nat.testBit_lt_two_pow (z_m_lt P p), decide_eq_true (Nat.lt_succ_self p), hp]
        rfl
      · have h2 : 2 ^ n + z_m P n < 2 ^ p := by
          have h3 := z_m_lt P n
          have h4 : 2 ^ (n + 1) ≤ 2 ^ p := Nat.pow_le_pow_right (by decide) h
          rw [Nat.pow_succ] at h4
          omega
        rw [Nat.testBit_lt_two_pow h2, decide_eq_false (show ¬ p < n + 1 by omega)]
        rfl
    · rw [if_neg hp, Nat.add_zero, ih]
      by_cases h : p < n
      · rw [decide_eq_true h, decide_eq_true (show p < n + 1 by omega)]
      · rw [decide_eq_false h]
        by_cases h2 : p = n
        · subst h2
          rw [Bool.eq_false_iff.mpr hp]
          simp
        · rw [decide_eq_false (show ¬ p < n + 1 by omega)]
theorem z_m_ext {P Q : Nat → Bool} : ∀ {n : Nat}, (∀ p, p < n → P p = Q p) → z_m P n = z_m Q n
  | 0, _ => rfl
  | n + 1, h => by rw [z_m, z_m, z_m_ext (fun p hp => h p (by omega)), h n (by omega)]
theorem z_c_ext {P Q : Nat → Bool} : ∀ {n : Nat}, (∀ p, p < n → P p = Q p) → z_c P n = z_c Q n
  | 0, _ => rfl
  | n + 1, h => by rw [z_c, z_c, z_c_ext (fun p hp => h p (by omega)), h n (by omega)]
theorem z_c_le (P : Nat → Bool) : ∀ n, z_c P n ≤ n
  | 0 => Nat.le_refl 0
  | n + 1 => by
    have h := z_c_le P n
    rw [z_c]
    split <;> omega
theorem z_c_cut (P : Nat → Bool) (n : Nat) : ∀ d, z_c (fun q => decide (q < n) && P q) (n + d) = z_c P n
  | 0 => z_c_ext (fun p hp => by rw [decide_eq_true (show p < n by omega)]; rfl)
  | d + 1 => by
    rw [← Nat.add_assoc, z_c, z_c_cut P n d, decide_eq_false (show ¬ n + d < n by omega)]
    rfl
theorem z_pcm (P : Nat → Bool) {n : Nat} (hn : n ≤ 8) : z_c (z_m P n).testBit 8 = z_c P n := by
  have h := z_c_cut P n (8 - n)
  rw [show n + (8 - n) = 8 by omega] at h
  rw [z_c_ext (Q := fun q => decide (q < n) && P q) (fun p _ => z_m_tb P p n)]
  exact h
/-- how many are in a part, and in the rest -/
theorem z_c_split (P Q : Nat → Bool) : ∀ n, z_c P n = z_c (fun q => P q && Q q) n + z_c (fun q => P q && !Q q) n
  | 0 => rfl
  | n + 1 => by
    rw [z_c, z_c, z_c, z_c_split P Q n]
    cases P n <;> cases Q n <;> simp <;> omega
theorem z_c_less (P : Nat → Bool) {p : Nat} (hP : P p = true) : ∀ {n : Nat}, p < n → z_c (fun q => P q && (q != p)) n + 1 = z_c P n
  | 0, h => absurd h (Nat.not_lt_zero _)
  | n + 1, h => by
    rw [z_c, z_c]
    by_cases e : n = p
    · subst e
      rw [if_pos hP, if_neg (by simp)]
      rw [z_c_ext (Q := P) (fun q hq => by simp [show q ≠ n by omega])]
    · have ih := z_c_less P hP (n := n) (by omega)
      simp only [show (n != p) = true by simp [e], Bool.and_true]
      omega
theorem z_bits : ∀ m, m < 256 → m_X12_bits (nI m) = some (nI (z_c m.testBit 8)) := by decide +kernel
theorem z_bitc : ∀ m, m < 256 → m_J6_bitCount_0f7a4 (nI m) = some (nI (z_c m.testBit 8)) := by decide +kernel
theorem z_and (a b : Nat) : nI a &&& nI b = nI (a &&& b) := by
  apply Int32.toBitVec.inj
  rw [Int32.toBitVec_and]
  exact BitVec.ofNat_and.symm
theorem z_or (a b : Nat) : nI a ||| nI b = nI (a ||| b) := by
  apply Int32.toBitVec.inj
  rw [Int32.toBitVec_or]
  exact BitVec.ofNat_or.symm
theorem z_orb' : ∀ k, k < 8 → ∀ m, m < 128 → m < 2 ^ k → nI m ||| ((1 : Int32) <<< (nI k &&& 31)) = nI (m + 2 ^ k) := by decide +kernel
theorem z_or0 (x : Int32) : x ||| 0 = x := by
  apply Int32.toBitVec.inj
  simp
theorem z_orb {k : Nat} (P : Nat → Bool) (hk : k < 8) : nI (z_m P k) ||| ((1 : Int32) <<< (nI k &&& 31)) = nI (z_m P k + 2 ^ k) :=
  z_orb' k hk _ (Nat.lt_of_lt_of_le (z_m_lt P k) (Nat.pow_le_pow_right (n := 2) (by decide) (show k ≤ 7 by omega))) (z_m_lt P k)
theorem z_tst : ∀ m, m < 256 → ∀ p, p < 8 → (((nI m >>> (nI p &&& 31)) &&& 1 = (1 : Int32)) ↔ m.testBit p = true) := by decide +kernel
theorem z_tstm (P : Nat → Bool) {n p : Nat} (hn : n ≤ 8) (hp : p < n) : ((nI (z_m P n) >>> (nI p &&& 31)) &&& 1 = (1 : Int32)) ↔ P p = true := by
  rw [z_tst _ (z_m_256 P hn) p (by omega), z_m_tb, decide_eq_true hp]
  simp
theorem z_one : ∀ p, p < 8 → (1 : Int32) <<< (nI p &&& 31) = nI (2 ^ p) := by decide +kernel
theorem z_all : ∀ n, n < 9 → (1 : Int32) <<< (nI n &&& 31) - 1 = nI (2 ^ n - 1) := by decide +kernel
theorem z_non' : ∀ m, m < 256 → ∀ p, p < 8 → nI m &&& (((1 : Int32) <<< (nI p &&& 31)) ^^^ (-1)) = nI (m &&& (255 - 2 ^ p)) := by decide +kernel
theorem z_noq : ∀ p, p < 8 → ∀ q, q < 8 → (255 - 2 ^ p).testBit q = (q != p) := by decide +kernel
theorem z_non (P : Nat → Bool) {n p : Nat} (hn : n ≤ 8) (hp : p < 8) : nI (z_m P n) &&& (((1 : Int32) <<< (nI p &&& 31)) ^^^ (-1)) = nI (z_m (fun q => P q && (q != p)) n) := by
  rw [z_non' _ (z_m_256 P hn) p hp]
  congr 1
  apply Nat.eq_of_testBit_eq
  intro q
  rw [Nat.testBit_and, z_m_tb, z_m_tb]
  by_cases h : q < n
  · rw [z_noq p hp q (by omega)]
    cases decide (q < n) <;> simp
  · rw [decide_eq_false h]
    simp
theorem z_m_and (P Q : Nat → Bool) (n : Nat) : z_m P n &&& z_m Q n = z_m (fun q => P q && Q q) n := by
  apply Nat.eq_of_testBit_eq
  intro q
  rw [Nat.testBit_and, z_m_tb, z_m_tb, z_m_tb]
  cases decide (q < n) <;> simp
theorem z_m_all : ∀ n, z_m (fun _ => true) n = 2 ^ n - 1
  | 0 => rfl
  | n + 1 => by
    have h : 0 < 2 ^ n := Nat.pow_pos (by decide)
    rw [z_m, z_m_all n, if_pos rfl, Nat.pow_succ]
    omega
/-! places of the reference's row -/
theorem z_i0 (p : Nat) : (12 : Int32) + 5 * nI p = nI (12 + 5 * p) := by
  rw [show (5 : Int32) = nI 5 from rfl, pk_mul, show (12 : Int32) = nI 12 from rfl, nI_add]
theorem z_i1 (p : Nat) : (12 : Int32) + 5 * nI p + 1 = nI (13 + 5 * p) := by
  rw [z_i0, nI_1, show 12 + 5 * p + 1 = 13 + 5 * p by omega]
theorem z_i2 (p : Nat) : (12 : Int32) + 5 * nI p + 2 = nI (14 + 5 * p) := by
  rw [z_i0, show (2 : Int32) = nI 2 from rfl, nI_add, show 12 + 5 * p + 2 = 14 + 5 * p by omega]
theorem z_i3 (p : Nat) : (12 : Int32) + 5 * nI p + 3 = nI (15 + 5 * p) := by
  rw [z_i0, show (3 : Int32) = nI 3 from rfl, nI_add, show 12 + 5 * p + 3 = 15 + 5 * p by omega]
theorem z_i4 (p : Nat) : (12 : Int32) + 5 * nI p + 4 = nI (16 + 5 * p) := by
  rw [z_i0, show (4 : Int32) = nI 4 from rfl, nI_add, show 12 + 5 * p + 4 = 16 + 5 * p by omega]
theorem z_k52 (p : Nat) : (52 : Int32) + nI p = nI (52 + p) := nI_add 52 p
theorem z_k60 (p : Nat) : (60 : Int32) + nI p = nI (60 + p) := nI_add 60 p
theorem z_k68 (p : Nat) : (68 : Int32) + nI p = nI (68 + p) := nI_add 68 p
theorem z_k76 (p : Nat) : (76 : Int32) + nI p = nI (76 + p) := nI_add 76 p
theorem z_a0 (f : Nat → Int32) : t_ai 106 f 0 = some (f 0) := t_ai_in (j := 0) (by decide) (by decide)
theorem z_a1 (f : Nat → Int32) : t_ai 106 f 1 = some (f 1) := t_ai_in (j := 1) (by decide) (by decide)
theorem z_a2 (f : Nat → Int32) : t_ai 106 f 2 = some (f 2) := t_ai_in (j := 2) (by decide) (by decide)
theorem z_a3 (f : Nat → Int32) : t_ai 106 f 3 = some (f 3) := t_ai_in (j := 3) (by decide) (by decide)
theorem z_a10 (f : Nat → Int32) : t_ai 106 f 10 = some (f 10) := t_ai_in (j := 10) (by decide) (by decide)
theorem z_a11 (f : Nat → Int32) : t_ai 106 f 11 = some (f 11) := t_ai_in (j := 11) (by decide) (by decide)
theorem z_a84 (f : Nat → Int32) : t_ai 106 f 84 = some (f 84) := t_ai_in (j := 84) (by decide) (by decide)
theorem z_a105 (f : Nat → Int32) : t_ai 106 f 105 = some (f 105) := t_ai_in (j := 105) (by decide) (by decide)
section RA
variable {σ : r_S} {p n : Nat}
theorem z_sideOf (hp : p < 8) : t_X12_sideOf σ (nI p) = some (r_A σ 20 (12 + 5 * p)) := by
  unfold t_X12_sideOf
  rw [z_i0, t_ai_in (by omega) (by decide)]
  rfl
theorem z_placeOf (hp : p < 8) : t_X12_placeOf σ (nI p) = some (r_A σ 20 (13 + 5 * p)) := by
  unfold t_X12_placeOf
  rw [z_i1, t_ai_in (by omega) (by decide)]
  rfl
theorem z_windOf (hp : p < 8) : t_X12_windOf σ (nI p) = some (r_A σ 20 (14 + 5 * p)) := by
  unfold t_X12_windOf
  rw [z_i2, t_ai_in (by omega) (by decide)]
  rfl
theorem z_workOf (hp : p < 8) : t_X12_workOf σ (nI p) = some (r_A σ 20 (16 + 5 * p)) := by
  unfold t_X12_workOf
  rw [z_i4, t_ai_in (by omega) (by decide)]
  rfl
theorem z_isPuller (hn : n ≤ 8) (h3 : r_A σ 20 3 = nI n) (hp : p < n) : t_X12_isPuller σ (nI p) = some 1 := by
  unfold t_X12_isPuller
  rw [if_neg (nI_pos (by omega)), z_a3, Option.bind_some, h3, if_neg (nI_ge hp (by omega))]
theorem z_isUp (hn : n ≤ 8) (h3 : r_A σ 20 3 = nI n) (hp : p < n) : t_X12_isUp σ (nI p) = some (if r_A σ 20 (15 + 5 * p) = 1 then 1 else 0) := by
  unfold t_X12_isUp
  rw [z_isPuller hn h3 hp, Option.bind_some, if_neg (by decide), z_i3, t_ai_in (by omega) (by decide), Option.bind_some]
  split <;> rfl
/-- who stands, who is on a side: as masks -/
def z_up (s : Nat → Int32) (p : Nat) : Bool := decide (s (15 + 5 * p) = 1)
def z_on (s : Nat → Int32) (c : Int32) (p : Nat) : Bool := decide (s (12 + 5 * p) = c)
theorem z_upL (hn : n ≤ 8) (h3 : r_A σ 20 3 = nI n) : ∀ (m k fu : Nat), k + m = n → m < fu → t_X12_upOnes_4 fu σ (nI (z_m (z_up (r_A σ 20)) k)) (nI k) = some (nI (z_m (z_up (r_A σ 20)) n)) := by
  intro m
  induction m with
  | zero =>
    intro k fu hk hf
    obtain ⟨fu, rfl⟩ := Nat.exists_eq_succ_of_ne_zero (show fu ≠ 0 by omega)
    obtain rfl : k = n := hk
    rw [t_X12_upOnes_4, z_a3, Option.bind_some, h3, if_pos (nI_le (Nat.le_refl _) (by omega))]
  | succ m ih =>
    intro k fu hk hf
    obtain ⟨fu, rfl⟩ := Nat.exists_eq_succ_of_ne_zero (show fu ≠ 0 by omega)
    rw [t_X12_upOnes_4, z_a3, Option.bind_some, h3, if_neg (nI_ge (show k < n by omega) (by omega)), z_isUp hn h3 (by omega), Option.bind_some]
    have h := ih (k + 1) fu (by omega) (by omega)
    rw [z_m] at h
    by_cases hb : r_A σ 20 (15 + 5 * k) = 1
    · rw [if_pos hb, if_neg (by decide), t_X12_upOnes_30, z_orb _ (by omega), nI_1]
      rw [if_pos (show z_up (r_A σ 20) k = true from decide_eq_true hb)] at h
      exact h
    · rw [if_neg hb, if_pos rfl, t_X12_upOnes_30, z_or0, nI_1]
      rw [if_neg (show ¬ z_up (r_A σ 20) k = true from fun e => hb (of_decide_eq_true e))] at h
      exact h
theorem z_upOnes (hn : n ≤ 8) (h3 : r_A σ 20 3 = nI n) : t_X12_upOnes σ = some (nI (z_m (z_up (r_A σ 20)) n)) :=
  z_upL hn h3 n 0 q_fu (by omega) (by show n < 5000; omega)
theorem z_onL (hn : n ≤ 8) (h3 : r_A σ 20 3 = nI n) (c : Int32) : ∀ (m k fu : Nat), k + m = n → m < fu → t_X12_onesOn_4 fu σ c (nI (z_m (z_on (r_A σ 20) c) k)) (nI k) = some (nI (z_m (z_on (r_A σ 20) c) n)) := by
  intro m
  induction m with
  | zero =>
    intro k fu hk hf
    obtain ⟨fu, rfl⟩ := Nat.exists_eq_succ_of_ne_zero (show fu ≠ 0 by omega)
    obtain rfl : k = n := hk
    rw [t_X12_onesOn_4, z_a3, Option.bind_some, h3, if_pos (nI_le (Nat.le_refl _) (by omega))]
  | succ m ih =>
    intro k fu hk hf
    obtain ⟨fu, rfl⟩ := Nat.exists_eq_succ_of_ne_zero (show fu ≠ 0 by omega)
    rw [t_X12_onesOn_4, z_a3, Option.bind_some, h3, if_neg (nI_ge (show k < n by omega) (by omega)), z_sideOf (by omega), Option.bind_some]
    have h := ih (k + 1) fu (by omega) (by omega)
    rw [z_m] at h
    by_cases hb : r_A σ 20 (12 + 5 * k) = c
    · rw [if_pos hb, t_X12_onesOn_31, z_orb _ (by omega), nI_1]
      rw [if_pos (show z_on (r_A σ 20) c k = true from decide_eq_true hb)] at h
      exact h
    · rw [if_neg hb, t_X12_onesOn_31, z_or0, nI_1]
      rw [if_neg (show ¬ z_on (r_A σ 20) c k = true from fun e => hb (of_decide_eq_true e))] at h
      exact h
theorem z_onesOn (hn : n ≤ 8) (h3 : r_A σ 20 3 = nI n) (c : Int32) : t_X12_onesOn σ c = some (nI (z_m (z_on (r_A σ 20) c) n)) :=
  z_onL hn h3 c n 0 q_fu (by omega) (by show n < 5000; omega)
/-- a sum over the pullers -/
def z_sum (f : Nat → Int32) : Nat → Int32
  | 0 => 0
  | n + 1 => z_sum f n + f n
theorem z_sum_ext {f g : Nat → Int32} : ∀ {n : Nat}, (∀ p, p < n → f p = g p) → z_sum f n = z_sum g n
  | 0, _ => rfl
  | n + 1, h => by rw [z_sum, z_sum, z_sum_ext (fun p hp => h p (by omega)), h n (by omega)]
theorem z_waL (hn : n ≤ 8) (h3 : r_A σ 20 3 = nI n) : ∀ (m k fu : Nat), k + m = n → m < fu → t_X12_workAll_4 fu σ (z_sum (fun p => r_A σ 20 (16 + 5 * p)) k) (nI k) = some (z_sum (fun p => r_A σ 20 (16 + 5 * p)) n) := by
  intro m
  induction m with
  | zero =>
    intro k fu hk hf
    obtain ⟨fu, rfl⟩ := Nat.exists_eq_succ_of_ne_zero (show fu ≠ 0 by omega)
    obtain rfl : k = n := hk
    rw [t_X12_workAll_4, z_a3, Option.bind_some, h3, if_pos (nI_le (Nat.le_refl _) (by omega))]
  | succ m ih =>
    intro k fu hk hf
    obtain ⟨fu, rfl⟩ := Nat.exists_eq_succ_of_ne_zero (show fu ≠ 0 by omega)
    rw [t_X12_workAll_4, z_a3, Option.bind_some, h3, if_neg (nI_ge (show k < n by omega) (by omega)), z_workOf (by omega), Option.bind_some, nI_1]
    exact ih (k + 1) fu (by omega) (by omega)
theorem z_workAll (hn : n ≤ 8) (h3 : r_A σ 20 3 = nI n) : t_X12_workAll σ = some (z_sum (fun p => r_A σ 20 (16 + 5 * p)) n) :=
  z_waL hn h3 n 0 q_fu (by omega) (by show n < 5000; omega)
end RA
section GA
variable {t o : g_S} {p n : Nat}
theorem z_setL (hn : n ≤ 8) (c : Int32) : ∀ (m k fu : Nat), k + m = n → m < fu → t_X10_setOnSide_5 fu t c (nI n) (nI (z_m (fun p => decide (g_A t 3 p = c)) k)) (nI k) = some (nI (z_m (fun p => decide (g_A t 3 p = c)) n)) := by
  intro m
  induction m with
  | zero =>
    intro k fu hk hf
    obtain ⟨fu, rfl⟩ := Nat.exists_eq_succ_of_ne_zero (show fu ≠ 0 by omega)
    obtain rfl : k = n := hk
    rw [t_X10_setOnSide_5, if_pos (nI_le (Nat.le_refl _) (by omega))]
  | succ m ih =>
    intro k fu hk hf
    obtain ⟨fu, rfl⟩ := Nat.exists_eq_succ_of_ne_zero (show fu ≠ 0 by omega)
    rw [t_X10_setOnSide_5, if_neg (nI_ge (show k < n by omega) (by omega)), t_ai_in (by omega) (by decide), Option.bind_some]
    have h := ih (k + 1) fu (by omega) (by omega)
    rw [z_m] at h
    by_cases hb : g_A t 3 k = c
    · rw [if_pos hb, t_X10_setOnSide_29, z_orb _ (by omega), nI_1]
      rw [if_pos (decide_eq_true hb)] at h
      exact h
    · rw [if_neg hb, t_X10_setOnSide_29, nI_1]
      rw [if_neg (fun e => hb (of_decide_eq_true e))] at h
      exact h
theorem z_setOnSide (hn : n ≤ 8) (c : Int32) : t_X10_setOnSide t c (nI n) = some (nI (z_m (fun p => decide (g_A t 3 p = c)) n)) :=
  z_setL hn c n 0 q_fu (by omega) (by show n < 5000; omega)
theorem z_wtL (hn : n ≤ 8) : ∀ (m k fu : Nat), k + m = n → m < fu → t_X10_workedTogether_4 fu t (nI n) (z_sum (g_A t 6) k) (nI k) = some (z_sum (g_A t 6) n) := by
  intro m
  induction m with
  | zero =>
    intro k fu hk hf
    obtain ⟨fu, rfl⟩ := Nat.exists_eq_succ_of_ne_zero (show fu ≠ 0 by omega)
    obtain rfl : k = n := hk
    rw [t_X10_workedTogether_4, if_pos (nI_le (Nat.le_refl _) (by omega))]
  | succ m ih =>
    intro k fu hk hf
    obtain ⟨fu, rfl⟩ := Nat.exists_eq_succ_of_ne_zero (show fu ≠ 0 by omega)
    rw [t_X10_workedTogether_4, if_neg (nI_ge (show k < n by omega) (by omega)), t_ai_in (by omega) (by decide), Option.bind_some, nI_1]
    exact ih (k + 1) fu (by omega) (by omega)
theorem z_workedTogether (hn : n ≤ 8) : t_X10_workedTogether t (nI n) = some (z_sum (g_A t 6) n) :=
  z_wtL hn n 0 q_fu (by omega) (by show n < 5000; omega)
theorem z_stands {P : Nat → Bool} (hn : n ≤ 8) (hs : g_I t 2 = nI (z_m P n)) (hp : p < n) : t_X10_stands t (nI p) = some (if P p then 1 else 0) := by
  unfold t_X10_stands
  simp only [hs]
  by_cases h : P p = true
  · rw [if_pos ((z_tstm P hn hp).mpr h), if_pos h]
  · rw [if_neg (fun e => h ((z_tstm P hn hp).mp e)), if_neg h]
theorem z_everyone (hn : n ≤ 8) (h3 : g_I o 3 = nI n) : t_X4_everyone o = some (nI (2 ^ n - 1)) := by
  unfold t_X4_everyone
  simp only [h3]
  rw [z_all n (by omega)]
end GA
