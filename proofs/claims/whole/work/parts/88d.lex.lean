/-! ===== L3: the TAPE's bytes, blanks, NUMBERS and WORDS ===== -/
def z_u (f : Nat → Int32) (i : Nat) : Nat := (f i).toBitVec.toNat % 256
theorem z_u_lt (f : Nat → Int32) (i : Nat) : z_u f i < 256 := Nat.mod_lt _ (by decide)
theorem z_u255 (f : Nat → Int32) (i : Nat) : f i &&& 255 = nI (z_u f i) := pk_and (f i) 8 (by decide)
/-- a row of bytes -/
def z_by (f : Nat → Int32) (N : Nat) : Prop := N ≤ 400 ∧ ∀ i, i < N → -128 ≤ (f i).toInt ∧ (f i).toInt ≤ 127
theorem z_byte {f : Nat → Int32} {N i : Nat} (H : z_by f N) (hi : i < N) : (z_u f i < 128 ∧ f i = nI (z_u f i)) ∨ (128 ≤ z_u f i ∧ (f i).toInt < 0) := by
  obtain ⟨a, b⟩ := H.2 i hi
  have h1 : (f i).toInt = if 2 * (f i).toBitVec.toNat < 2 ^ 32 then ((f i).toBitVec.toNat : Int) else ((f i).toBitVec.toNat : Int) - (2 ^ 32 : Nat) := BitVec.toInt_eq_toNat_cond _
  have h2 : (f i).toBitVec.toNat < 2 ^ 32 := (f i).toBitVec.isLt
  unfold z_u
  by_cases c : 2 * (f i).toBitVec.toNat < 2 ^ 32
  · rw [if_pos c] at h1
    refine Or.inl ⟨by omega, ?_⟩
    apply Int32.toInt_inj.mp
    rw [nI_toInt (by omega), h1]
    omega
  · rw [if_neg c] at h1
    exact Or.inr ⟨by omega, by omega⟩
section BY
variable {f : Nat → Int32} {N i : Nat}
theorem z_b_eq (H : z_by f N) (hi : i < N) {c : Nat} (hc : c < 128) : f i = nI c ↔ z_u f i = c := by
  rcases z_byte H hi with ⟨a, b⟩ | ⟨a, b⟩
  · rw [b]
    have e : z_u f i = z_u f i := rfl
    constructor
    · intro h; exact (nI_eq (by omega) (by omega)).mp h
    · intro h; rw [h]
  · constructor
    · intro h
      rw [h, nI_toInt (by omega)] at b
      omega
    · intro h; omega
theorem z_b_lt (H : z_by f N) (hi : i < N) {c : Nat} (hc : c < 128) : f i < nI c ↔ (z_u f i < c ∨ 128 ≤ z_u f i) := by
  rw [Int32.lt_iff_toInt_lt, nI_toInt (by omega)]
  rcases z_byte H hi with ⟨a, b⟩ | ⟨a, b⟩
  · rw [b, nI_toInt (by omega)]
    omega
  · omega
theorem z_b_gt (H : z_by f N) (hi : i < N) {c : Nat} (hc : c < 128) : nI c < f i ↔ (c < z_u f i ∧ z_u f i < 128) := by
  rw [Int32.lt_iff_toInt_lt, nI_toInt (by omega)]
  rcases z_byte H hi with ⟨a, b⟩ | ⟨a, b⟩
  · rw [b, nI_toInt (by omega)]
    omega
  · omega
end BY
/-! blanks and runs -/
def z_sk (u : Nat → Nat) (N : Nat) : Nat → Nat → Nat
  | 0, i => i
  | m + 1, i => if i < N ∧ u i = 32 then z_sk u N m (i + 1) else i
def z_S (u : Nat → Nat) (N i : Nat) : Nat := z_sk u N N i
def z_rn (P : Nat → Bool) (N : Nat) : Nat → Nat → Nat
  | 0, i => i
  | m + 1, i => if i < N ∧ P i = true then z_rn P N m (i + 1) else i
def z_E (P : Nat → Bool) (N i : Nat) : Nat := z_rn P N N i
theorem z_rn_fuel (P : Nat → Bool) (N : Nat) : ∀ (m m' i : Nat), N ≤ m + i → N ≤ m' + i → z_rn P N m i = z_rn P N m' i
  | 0, 0, _, _, _ => rfl
  | 0, m' + 1, i, h, _ => by rw [z_rn, z_rn, if_neg (by omega)]
  | m + 1, 0, i, _, h => by rw [z_rn, z_rn, if_neg (by omega)]
  | m + 1, m' + 1, i, h, h' => by
    rw [z_rn, z_rn, z_rn_fuel P N m m' (i + 1) (by omega) (by omega)]
theorem z_sk_rn (u : Nat → Nat) (N : Nat) : ∀ (m i : Nat), z_sk u N m i = z_rn (fun j => decide (u j = 32)) N m i
  | 0, _ => rfl
  | m + 1, i => by
    rw [z_sk, z_rn, z_sk_rn u N m (i + 1)]
    simp
theorem z_S_E (u : Nat → Nat) (N i : Nat) : z_S u N i = z_E (fun j => decide (u j = 32)) N i := z_sk_rn u N N i
theorem z_rn_ge (P : Nat → Bool) (N : Nat) : ∀ (m i : Nat), i ≤ z_rn P N m i
  | 0, _ => Nat.le_refl _
  | m + 1, i => by
    rw [z_rn]
    split
    · have := z_rn_ge P N m (i + 1)
      omega
    · exact Nat.le_refl _
theorem z_rn_le (P : Nat → Bool) (N : Nat) : ∀ (m i : Nat), i ≤ N → z_rn P N m i ≤ N
  | 0, _, h => h
  | m + 1, i, h => by
    rw [z_rn]
    split
    · next c => exact z_rn_le P N m (i + 1) c.1
    · exact h
theorem z_rn_in (P : Nat → Bool) (N : Nat) : ∀ (m i j : Nat), i ≤ j → j < z_rn P N m i → P j = true
  | 0, i, j, h, h2 => by rw [z_rn] at h2; omega
  | m + 1, i, j, h, h2 => by
    rw [z_rn] at h2
    split at h2
    · next c =>
      by_cases e : j = i
      · rw [e]; exact c.2
      · exact z_rn_in P N m (i + 1) j (by omega) h2
    · omega
theorem z_E_ge (P : Nat → Bool) (N i : Nat) : i ≤ z_E P N i := z_rn_ge P N N i
theorem z_E_le (P : Nat → Bool) {N i : Nat} (h : i ≤ N) : z_E P N i ≤ N := z_rn_le P N N i h
theorem z_E_in {P : Nat → Bool} {N i j : Nat} (h : i ≤ j) (h2 : j < z_E P N i) : P j = true := z_rn_in P N N i j h h2
theorem z_E_step {P : Nat → Bool} {N i : Nat} (h : i < N) (hp : P i = true) : z_E P N i = z_E P N (i + 1) := by
  unfold z_E
  rw [z_rn_fuel P N N (N + 1) i (by omega) (by omega), z_rn, if_pos ⟨h, hp⟩]
theorem z_E_stop {P : Nat → Bool} {N i : Nat} (h : ¬ (i < N ∧ P i = true)) : z_E P N i = i := by
  unfold z_E
  cases N with
  | zero => rfl
  | succ N => rw [z_rn, if_neg h]
theorem z_E_end {P : Nat → Bool} {N i : Nat} (h : z_E P N i < N) : P (z_E P N i) = false := by
  have key : ∀ (m i : Nat), N ≤ m + i → z_rn P N m i < N → P (z_rn P N m i) = false := by
    intro m
    induction m with
    | zero => intro i h1 h2; rw [z_rn] at h2; omega
    | succ m ih =>
      intro i h1 h2
      rw [z_rn] at h2 ⊢
      split
      · next c =>
        rw [if_pos c] at h2
        exact ih (i + 1) (by omega) h2
      · next c =>
        rw [if_neg c] at h2
        cases hp : P i
        · rfl
        · exact absurd ⟨h2, hp⟩ c
  exact key N i (by omega) h
/-! the reference's place -/
def z_nx (σ : r_S) (i : Nat) : r_S := r_si σ 8 (nI i)
theorem z_nx8 (σ : r_S) (i : Nat) : r_I (z_nx σ i) 8 = nI i := z_rsiI _ _ _
theorem z_nxI {σ : r_S} {i k : Nat} (h : k ≠ 8) : r_I (z_nx σ i) k = r_I σ k := z_rsiIn h
theorem z_nxA (σ : r_S) (i k : Nat) : r_A (z_nx σ i) k = r_A σ k := rfl
theorem z_nxx (σ : r_S) (i j : Nat) : z_nx (z_nx σ i) j = z_nx σ j := by
  unfold z_nx r_si
  simp only [bx_uu]
theorem z_nx_si (σ : r_S) (i : Nat) (v : Int32) (h : v = nI (i + 1)) : r_si (z_nx σ i) 8 v = z_nx σ (i + 1) := by
  rw [h]
  exact z_nxx σ i (i + 1)
/-- the reference reads: its TAPE is f, of N bytes -/
def z_rd (σ : r_S) (f : Nat → Int32) (N : Nat) : Prop := r_A σ 0 = f ∧ r_I σ 1 = nI N ∧ z_by f N
theorem z_rd_nx {σ : r_S} {f : Nat → Int32} {N : Nat} (H : z_rd σ f N) (i : Nat) : z_rd (z_nx σ i) f N := ⟨H.1, (z_nxI (by decide)).trans H.2.1, H.2.2⟩
section SEE
variable {σ : r_S} {f : Nat → Int32} {N : Nat}
theorem z_seeL (H : z_rd σ f N) : ∀ (m i fu : Nat), i + m = N → m < fu → t_X12_see_0 fu (z_nx σ i) = some (if z_S (z_u f) N i < N then nI (z_u f (z_S (z_u f) N i)) else -1, z_nx σ (z_S (z_u f) N i)) := by
  obtain ⟨h0, h1, hb⟩ := H
  have hN := hb.1
  have e38 : ∀ i, i ≤ N → t_X12_see_38 (z_nx σ i) = some (if i < N then nI (z_u f i) else -1, z_nx σ i) := fun i hi => by
    unfold t_X12_see_38
    dsimp only
    rw [z_nx8, z_nxI (by decide), h1, z_nxA, h0]
    by_cases c : i < N
    · rw [if_neg (nI_ge c (by omega)), t_ai_in (by omega) (by decide), Option.bind_some, z_u255, if_pos c]
    · rw [if_pos (nI_le (by omega) (by omega)), if_neg c]
  intro m
  induction m with
  | zero =>
    intro i fu hi hf
    obtain ⟨fu, rfl⟩ := Nat.exists_eq_succ_of_ne_zero (show fu ≠ 0 by omega)
    have eS : z_S (z_u f) N i = i := by rw [z_S_E]; exact z_E_stop (by omega)
    rw [eS, t_X12_see_0]
    dsimp only
    rw [z_nx8, z_nxI (by decide), h1, if_pos (nI_le (by omega) (by omega))]
    exact e38 i (by omega)
  | succ m ih =>
    intro i fu hi hf
    obtain ⟨fu, rfl⟩ := Nat.exists_eq_succ_of_ne_zero (show fu ≠ 0 by omega)
    rw [t_X12_see_0]
    dsimp only
    rw [z_nx8, z_nxI (by decide), h1, if_neg (nI_ge (show i < N by omega) (by omega)), z_nxA, h0, t_ai_in (by omega) (by decide), Option.bind_some]
    by_cases c : z_u f i = 32
    · have eS : z_S (z_u f) N i = z_S (z_u f) N (i + 1) := by
        rw [z_S_E, z_S_E]
        exact z_E_step (by omega) (decide_eq_true c)
      rw [if_pos (show f i = (32 : Int32) from (z_b_eq hb (by omega) (c := 32) (by decide)).mpr c), z_nx_si _ _ _ (nI_1 i), eS]
      exact ih (i + 1) fu (by omega) (by omega)
    · have eS : z_S (z_u f) N i = i := by
        rw [z_S_E]
        exact z_E_stop (fun h => c (of_decide_eq_true h.2))
      rw [if_neg (show ¬ f i = (32 : Int32) from fun e => c ((z_b_eq hb (by omega) (c := 32) (by decide)).mp e)), eS]
      exact e38 i (by omega)
theorem z_see {i : Nat} (H : z_rd σ f N) (hi : i ≤ N) : t_X12_see (z_nx σ i) = some (if z_S (z_u f) N i < N then nI (z_u f (z_S (z_u f) N i)) else -1, z_nx σ (z_S (z_u f) N i)) := by
  have hN := H.2.2.1
  exact z_seeL H (N - i) i q_fu (by omega) (by show _ < 5000; omega)
def z_dg (u : Nat → Nat) (i : Nat) : Bool := decide (48 ≤ u i ∧ u i ≤ 57)
def z_lt (u : Nat → Nat) (i : Nat) : Bool := decide (97 ≤ u i ∧ u i ≤ 122)
theorem z_isDigit {i j : Nat} (H : z_rd σ f N) (hi : i ≤ N) : t_X12_isDigit (z_nx σ j) (nI i) = some (if i < N ∧ z_dg (z_u f) i = true then 1 else 0) := by
  obtain ⟨h0, h1, hb⟩ := H
  have hN := hb.1
  unfold t_X12_isDigit
  dsimp only
  rw [z_nxI (by decide), h1, z_nxA, h0]
  by_cases c : i < N
  · rw [if_neg (nI_ge c (by omega)), t_ai_in (by omega) (by decide), Option.bind_some, Option.bind_some]
    unfold z_dg
    by_cases c1 : f i < (48 : Int32)
    · have := (z_b_lt hb c (c := 48) (by decide)).mp c1
      rw [if_pos c1, if_neg (fun h => by have := of_decide_eq_true h.2; omega)]
    · have d1 : ¬ (z_u f i < 48 ∨ 128 ≤ z_u f i) := fun e => c1 ((z_b_lt hb c (c := 48) (by decide)).mpr e)
      rw [if_neg c1]
      by_cases c2 : (57 : Int32) < f i
      · have := (z_b_gt hb c (c := 57) (by decide)).mp c2
        rw [if_pos c2, if_neg (fun h => by have := of_decide_eq_true h.2; omega)]
      · have d2 : ¬ (57 < z_u f i ∧ z_u f i < 128) := fun e => c2 ((z_b_gt hb c (c := 57) (by decide)).mpr e)
        rw [if_neg c2, if_pos ⟨c, decide_eq_true (by omega)⟩]
  · rw [if_pos (nI_le (by omega) (by omega)), if_neg (fun h => c h.1)]
theorem z_isLetter {i j : Nat} (H : z_rd σ f N) (hi : i ≤ N) : t_X12_isLetter (z_nx σ j) (nI i) = some (if i < N ∧ z_lt (z_u f) i = true then 1 else 0) := by
  obtain ⟨h0, h1, hb⟩ := H
  have hN := hb.1
  unfold t_X12_isLetter
  dsimp only
  rw [z_nxI (by decide), h1, z_nxA, h0]
  by_cases c : i < N
  · rw [if_neg (nI_ge c (by omega)), t_ai_in (by omega) (by decide), Option.bind_some, Option.bind_some]
    unfold z_lt
    by_cases c1 : f i < (97 : Int32)
    · have := (z_b_lt hb c (c := 97) (by decide)).mp c1
      rw [if_pos c1, if_neg (fun h => by have := of_decide_eq_true h.2; omega)]
    · have d1 : ¬ (z_u f i < 97 ∨ 128 ≤ z_u f i) := fun e => c1 ((z_b_lt hb c (c := 97) (by decide)).mpr e)
      rw [if_neg c1]
      by_cases c2 : (122 : Int32) < f i
      · have := (z_b_gt hb c (c := 122) (by decide)).mp c2
        rw [if_pos c2, if_neg (fun h => by have := of_decide_eq_true h.2; omega)]
      · have d2 : ¬ (122 < z_u f i ∧ z_u f i < 128) := fun e => c2 ((z_b_gt hb c (c := 122) (by decide)).mpr e)
        rw [if_neg c2, if_pos ⟨c, decide_eq_true (by omega)⟩]
  · rw [if_pos (nI_le (by omega) (by omega)), if_neg (fun h => c h.1)]
theorem z_passL (H : z_rd σ f N) : ∀ (m i fu : Nat), i + m = N → m < fu → t_X12_passWord_0 fu (z_nx σ i) = some (z_nx σ (z_E (z_lt (z_u f)) N i)) := by
  have hN := H.2.2.1
  intro m
  induction m with
  | zero =>
    intro i fu hi hf
    obtain ⟨fu, rfl⟩ := Nat.exists_eq_succ_of_ne_zero (show fu ≠ 0 by omega)
    rw [t_X12_passWord_0]
    dsimp only
    rw [z_nx8, z_isLetter H (by omega), Option.bind_some, if_neg (show ¬ (i < N ∧ z_lt (z_u f) i = true) by omega), if_pos rfl, z_E_stop (by omega)]
  | succ m ih =>
    intro i fu hi hf
    obtain ⟨fu, rfl⟩ := Nat.exists_eq_succ_of_ne_zero (show fu ≠ 0 by omega)
    rw [t_X12_passWord_0]
    dsimp only
    rw [z_nx8, z_isLetter H (by omega), Option.bind_some]
    by_cases c : z_lt (z_u f) i = true
    · rw [if_pos (show i < N ∧ z_lt (z_u f) i = true from ⟨by omega, c⟩), if_neg (by decide), z_nx_si _ _ _ (nI_1 i), z_E_step (by omega) c]
      exact ih (i + 1) fu (by omega) (by omega)
    · rw [if_neg (show ¬ (i < N ∧ z_lt (z_u f) i = true) from fun h => c h.2), if_pos rfl, z_E_stop (fun h => c h.2)]
theorem z_passWord {i : Nat} (H : z_rd σ f N) (hi : i ≤ N) : t_X12_passWord (z_nx σ i) = some (z_nx σ (z_E (z_lt (z_u f)) N i)) := by
  have hN := H.2.2.1
  exact z_passL H (N - i) i q_fu (by omega) (by show _ < 5000; omega)
end SEE
