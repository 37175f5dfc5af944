/-! ===== L3: what both sides see at a place of the TAPE ===== -/
def z_k1 (f : Nat → Int32) (N p : Nat) : Nat := if p < N then z_kd f N p else 600
theorem z_wds_ok : ∀ w ∈ z_wds, 1 ≤ w.length ∧ w.length < 8 ∧ ∀ c ∈ w, 1 ≤ c ∧ c < 256 := by decide +kernel
theorem z_rr_k {d : g_S} {f : Nat → Int32} {N k p : Nat} (R : z_rr d f N k p) : g_I d 6 = nI (z_k1 f N p) ∧ g_A d 3 k = nI p ∧ p ≤ N := by
  unfold z_k1
  by_cases c : p < N
  · rw [if_pos c]
    exact ⟨(z_rr_at R c).1, (z_rr_at R c).2.2, by omega⟩
  · rw [if_neg c]
    obtain ⟨a1, a2, a3, a4⟩ := z_rr_end R c
    exact ⟨a2, by rw [a4, a1], by omega⟩
/-- kinds by what stands there -/
theorem z_kd_cases (f : Nat → Int32) (N p : Nat) : (z_dg (z_u f) p = true ∧ z_kd f N p = 601) ∨ (z_dg (z_u f) p ≠ true ∧ z_lt (z_u f) p = true ∧ z_kd f N p = z_wi z_wds (z_lw f N p) 700) ∨ (z_dg (z_u f) p ≠ true ∧ z_lt (z_u f) p ≠ true ∧ (((z_u f p = 60 ∨ z_u f p = 62) ∧ p + 1 < N ∧ z_u f (p + 1) = 61 ∧ z_kd f N p = z_u f p + 256) ∨ (¬ ((z_u f p = 60 ∨ z_u f p = 62) ∧ p + 1 < N ∧ z_u f (p + 1) = 61) ∧ z_kd f N p = z_u f p))) := by
  unfold z_kd
  by_cases c1 : z_dg (z_u f) p = true
  · exact Or.inl ⟨c1, if_pos c1⟩
  · rw [if_neg c1]
    by_cases c2 : z_lt (z_u f) p = true
    · exact Or.inr (Or.inl ⟨c1, c2, if_pos c2⟩)
    · rw [if_neg c2]
      refine Or.inr (Or.inr ⟨c1, c2, ?_⟩)
      by_cases c3 : (z_u f p = 60 ∨ z_u f p = 62) ∧ p + 1 < N ∧ z_u f (p + 1) = 61
      · exact Or.inl ⟨c3.1, c3.2.1, c3.2.2, if_pos c3⟩
      · exact Or.inr ⟨c3, if_neg c3⟩
theorem z_kd_ne (f : Nat → Int32) (N p : Nat) : z_kd f N p ≠ 600 ∧ z_kd f N p < 717 := by
  have hu := z_u_lt f p
  rcases z_kd_cases f N p with ⟨-, h⟩ | ⟨-, -, h⟩ | ⟨-, -, ⟨-, -, -, h⟩ | ⟨-, h⟩⟩
  · omega
  · have := z_wi_lt (z_lw f N p)
    omega
  · omega
  · omega
theorem z_k1_lt (f : Nat → Int32) (N p : Nat) : z_k1 f N p < 717 := by
  have := z_kd_ne f N p
  unfold z_k1
  split <;> omega
theorem z_k1_end (f : Nat → Int32) (N p : Nat) : z_k1 f N p = 600 ↔ ¬ p < N := by
  have := z_kd_ne f N p
  unfold z_k1
  by_cases c : p < N
  · rw [if_pos c]
    omega
  · rw [if_neg c]
    omega
theorem z_lw_no {f : Nat → Int32} {N p : Nat} (h : ¬ (p < N ∧ z_lt (z_u f) p = true)) : z_lw f N p = [] := by
  unfold z_lw
  rw [z_E_stop h, Nat.sub_self]
  rfl
theorem z_kw {f : Nat → Int32} {N p j : Nat} {w : List Nat} (hj : z_wds[j]? = some w) : z_lw f N p = w ↔ z_k1 f N p = 700 + j := by
  have hm : w ∈ z_wds := List.mem_of_getElem? hj
  obtain ⟨w1, -, -⟩ := z_wds_ok w hm
  have hu := z_u_lt f p
  unfold z_k1
  by_cases c : p < N
  · rw [if_pos c]
    rcases z_kd_cases f N p with ⟨a, h⟩ | ⟨-, a, h⟩ | ⟨-, a, h⟩
    · have : ¬ z_lt (z_u f) p = true := fun e => by
        have e1 := of_decide_eq_true e
        have e2 := of_decide_eq_true a
        omega
      rw [z_lw_no (fun e => this e.2), h]
      constructor
      · intro e
        rw [← e] at w1
        exact absurd w1 (by decide)
      · intro e
        omega
    · rw [h]
      exact (z_wi_iff hj).symm
    · rw [z_lw_no (fun e => a e.2)]
      constructor
      · intro e
        rw [← e] at w1
        exact absurd w1 (by decide)
      · intro e
        rcases h with ⟨-, -, -, h⟩ | ⟨-, h⟩ <;> omega
  · rw [if_neg c, z_lw_no (fun e => c e.1)]
    constructor
    · intro e
      rw [← e] at w1
      exact absurd w1 (by decide)
    · intro e
      omega
section RN
variable {σ : r_S} {f : Nat → Int32} {N : Nat}
theorem z_S_le (u : Nat → Nat) {N i : Nat} (hi : i ≤ N) : z_S u N i ≤ N := by
  rw [z_S_E]
  exact z_E_le _ hi
theorem z_isW (H : z_rd σ f N) {i : Nat} (hi : i ≤ N) (j : Nat) {w : List Nat} (hj : z_wds[j]? = some w) {c : Int64} (hc : c = lN (z_fd w)) : t_X12_isWord (z_nx σ i) c = some (if z_k1 f N (z_S (z_u f) N i) = 700 + j then 1 else 0, z_nx σ (z_S (z_u f) N i)) := by
  obtain ⟨w1, w2, w3⟩ := z_wds_ok w (List.mem_of_getElem? hj)
  rw [hc, z_isWord H hi w1 w2 w3]
  by_cases e : z_k1 f N (z_S (z_u f) N i) = 700 + j
  · rw [if_pos e, if_pos ((z_kw hj).mpr e)]
  · rw [if_neg e, if_neg (fun x => e ((z_kw hj).mp x))]
/-- a sign of one byte -/
theorem z_sign {p : Nat} {c : Nat} (hc : c < 256) (h1 : c < 48 ∨ (57 < c ∧ c < 97) ∨ 122 < c) (h2 : c ≠ 60 ∧ c ≠ 62) : (if p < N then nI (z_u f p) else (-1 : Int32)) = nI c ↔ z_k1 f N p = c := by
  have hu := z_u_lt f p
  unfold z_k1
  by_cases cp : p < N
  · rw [if_pos cp, if_pos cp, nI_eq (by omega) (by omega)]
    rcases z_kd_cases f N p with ⟨a, h⟩ | ⟨-, a, h⟩ | ⟨-, -, h⟩
    · have := of_decide_eq_true a
      omega
    · have := of_decide_eq_true a
      have := z_wi_lt (z_lw f N p)
      omega
    · rcases h with ⟨h0, -, -, h⟩ | ⟨-, h⟩ <;> omega
  · rw [if_neg cp, if_neg cp]
    constructor
    · intro e
      have e1 := congrArg Int32.toInt e
      rw [show (-1 : Int32).toInt = -1 by decide, nI_toInt (by omega)] at e1
      omega
    · intro e
      omega
theorem z_none {p : Nat} : (if p < N then nI (z_u f p) else (-1 : Int32)) = -1 ↔ z_k1 f N p = 600 := by
  have hu := z_u_lt f p
  rw [z_k1_end]
  by_cases cp : p < N
  · rw [if_pos cp]
    constructor
    · intro e
      have e1 := congrArg Int32.toInt e
      rw [show (-1 : Int32).toInt = -1 by decide, nI_toInt (by omega)] at e1
      omega
    · intro e
      exact absurd cp e
  · rw [if_neg cp]
    exact ⟨fun _ => cp, fun _ => rfl⟩
theorem z_toL {v : Nat} (h : v < 2 ^ 31) : ((nI v).toInt64).toInt = v := by
  rw [Int32.toInt_toInt64, nI_toInt h]
theorem z_in {v a b : Nat} (hv : v < 2 ^ 31) (ha : a < 2 ^ 31) (hb : b < 2 ^ 31) : m_X12_in (nI v).toInt64 (nI a).toInt64 (nI b).toInt64 = some (if a ≤ v ∧ v ≤ b then 1 else 0) := by
  have g1 := @z_lg_ge (nI v).toInt64 (nI a).toInt64
  have g2 := @z_lg_le (nI v).toInt64 (nI b).toInt64
  rw [z_toL hv, z_toL ha] at g1
  rw [z_toL hv, z_toL hb] at g2
  unfold m_X12_in
  by_cases c1 : a ≤ v
  · rw [if_neg (by rw [Int32.not_lt]; exact g1.mpr (by omega))]
    by_cases c2 : v ≤ b
    · rw [if_neg (by rw [Int32.not_lt]; exact g2.mpr (by omega)), if_pos ⟨c1, c2⟩]
    · rw [if_pos (by rw [← Int32.not_le]; intro e; have := g2.mp e; omega), if_neg (fun e => c2 e.2)]
  · rw [if_pos (by rw [← Int32.not_le]; intro e; have := g1.mp e; omega), if_neg (fun e => c1 e.1)]
/-- the reference's number behind its first digit -/
theorem z_numRL (H : z_rd σ f N) {p a b : Nat} (hp : p ≤ N) (ha : a < 2 ^ 31) (hb : b < 2 ^ 31) : ∀ (m k fu : Nat), p + k + m = z_E (z_dg (z_u f)) N p → m < fu → t_X12_numberHere_34 fu (z_nx σ (p + k)) (nI a) (nI b) (nI p) (nI (z_val (z_u f) p (min k 5))) = if z_E (z_dg (z_u f)) N p - p ≤ 5 ∧ a ≤ z_val (z_u f) p (min (z_E (z_dg (z_u f)) N p - p) 5) ∧ z_val (z_u f) p (min (z_E (z_dg (z_u f)) N p - p) 5) ≤ b then some (1, r_si (z_nx σ (z_E (z_dg (z_u f)) N p)) 10 (nI (z_val (z_u f) p (min (z_E (z_dg (z_u f)) N p - p) 5)))) else t_X12_numberHere_117 (r_si (z_nx σ (z_E (z_dg (z_u f)) N p)) 10 (nI (z_val (z_u f) p (min (z_E (z_dg (z_u f)) N p - p) 5)))) (nI p) := by
  have hN := H.2.2.1
  have hE := z_E_le (z_dg (z_u f)) hp
  have hin : ∀ j, p ≤ j → j < z_E (z_dg (z_u f)) N p → 48 ≤ z_u f j ∧ z_u f j ≤ 57 := fun j h1 h2 => of_decide_eq_true (z_E_in (N := N) h1 h2)
  intro m
  induction m with
  | zero =>
    intro k fu hk hf
    obtain ⟨fu, rfl⟩ := Nat.exists_eq_succ_of_ne_zero (show fu ≠ 0 by omega)
    have hk' : p + k = z_E (z_dg (z_u f)) N p := by omega
    have hv := z_val5 (u := z_u f) (a := p) (m := min (z_E (z_dg (z_u f)) N p - p) 5) (by omega) (fun j hj => (hin (p + j) (by omega) (by omega)).2)
    rw [t_X12_numberHere_34]
    try dsimp only
    rw [z_nx8, z_isDigit H (by omega), Option.bind_some, if_neg (show ¬ (p + k < N ∧ z_dg (z_u f) (p + k) = true) from fun e => by
      have h1 := e.1
      rw [hk'] at h1 e
      have := z_E_end h1
      rw [e.2] at this
      cases this), if_pos rfl, z_rsiIn (by decide), z_nx8, pk_sub (by omega), hk', show k = z_E (z_dg (z_u f)) N p - p by omega]
    by_cases c5 : z_E (z_dg (z_u f)) N p - p ≤ 5
    · rw [if_neg (show ¬ (5 : Int32) < nI (z_E (z_dg (z_u f)) N p - p) from nI_nlt (a := 5) c5 (by decide)), z_in (by omega) ha hb, Option.bind_some]
      by_cases c6 : a ≤ z_val (z_u f) p (min (z_E (z_dg (z_u f)) N p - p) 5) ∧ z_val (z_u f) p (min (z_E (z_dg (z_u f)) N p - p) 5) ≤ b
      · rw [if_pos c6, if_neg (by decide), if_pos ⟨c5, c6⟩]
      · rw [if_neg c6, if_pos rfl, if_neg (fun e => c6 e.2)]
    · rw [if_pos (show (5 : Int32) < nI (z_E (z_dg (z_u f)) N p - p) from nI_lt (a := 5) (by omega) (by omega)), if_neg (fun e => c5 e.1)]
  | succ m ih =>
    intro k fu hk hf
    obtain ⟨fu, rfl⟩ := Nat.exists_eq_succ_of_ne_zero (show fu ≠ 0 by omega)
    obtain ⟨d1, d2⟩ := hin (p + k) (by omega) (by omega)
    have e75 : ∀ x, t_X12_numberHere_75 (t_X12_numberHere_34 fu) (z_nx σ (p + k)) (nI a) (nI b) (nI p) x = t_X12_numberHere_34 fu (z_nx σ (p + k + 1)) (nI a) (nI b) (nI p) x := fun x => by
      unfold t_X12_numberHere_75
      try dsimp only
      rw [z_nx_si σ (p + k) _ (by rw [z_nx8, nI_1])]
    rw [t_X12_numberHere_34]
    try dsimp only
    rw [z_nx8, z_isDigit H (by omega), Option.bind_some, if_pos (show p + k < N ∧ z_dg (z_u f) (p + k) = true from ⟨by omega, decide_eq_true ⟨d1, d2⟩⟩), if_neg (by decide), pk_sub (by omega), show p + k - p = k by omega]
    have hf' : f (p + k) = nI (z_u f (p + k)) := by
      rcases z_byte H.2.2 (i := p + k) (by omega) with h | h
      · exact h.2
      · omega
    by_cases c5 : 5 ≤ k
    · rw [if_pos (show (5 : Int32) ≤ nI k from nI_le (a := 5) c5 (by omega)), e75, show min k 5 = min (k + 1) 5 by omega]
      exact ih (k + 1) fu (by omega) (by omega)
    · have hv := z_val5 (u := z_u f) (a := p) (m := k) (by omega) (fun j hj => (hin (p + j) (by omega) (by omega)).2)
      rw [if_neg (show ¬ (5 : Int32) ≤ nI k from nI_ge (b := 5) (by omega) (by decide)), z_nxA, H.1, t_ai_in (by omega) (by decide), Option.bind_some, e75, show min k 5 = k by omega, hf', show (10 : Int32) * nI (z_val (z_u f) p k) = nI (10 * z_val (z_u f) p k) from pk_mul 10 _, nI_add, show (48 : Int32) = nI 48 from rfl, pk_sub (by omega), show 10 * z_val (z_u f) p k + z_u f (p + k) - 48 = z_val (z_u f) p (min (k + 1) 5) by rw [show min (k + 1) 5 = k + 1 by omega, z_val]; omega]
      exact ih (k + 1) fu (by omega) (by omega)
end RN
