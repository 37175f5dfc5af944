/-! ===== L3: a SUM from its begin; the signs that compare ===== -/
section SX
variable {f : Nat → Int32} {N r c0 : Nat}
theorem z_sum_Ev (σ : r_S) : t_X12_sum σ = z_Ev 0 0 q_fu q_fu σ := by
  unfold t_X12_sum z_Ev t_X12_term z_G
  simp only [if_true]
theorem z_sumS {w k p i c m : Nat} {S0 : List Bool} {j d : g_S} {σ : r_S} {K V : Nat → Nat} (Y : z_y d σ f N k p i) (C : z_cj j σ r c m K V) (hc : c + w ≤ k) (T : z_tt K c0 c S0) (hl : S0.length ≤ m) :
    ∃ j' d' rr σ', t_X7_readSum j d = some (j', d') ∧ t_X12_sum σ = some (rr, σ') ∧ z_f1 r σ σ' ∧ z_f2 j j' ∧ g_P d' = g_P d ∧
      ((rr = 1 ∧ ∃ k' p' i' c' m' K' V', z_y d' σ' f N k' p' i' ∧ z_cj j' σ' r c' m' K' V' ∧ c' + w ≤ k' ∧ z_tt K' c0 c' (false :: S0) ∧ (false :: S0).length ≤ m' ∧ c < c' ∧ m < m' ∧ ∀ q, q < c → K' q = K q ∧ V' q = V q) ∨
       (rr = 0 ∧ ∃ e c', z_dd d' e ∧ r_I σ' 9 = e ∧ g_I j' 2 = nI c' ∧ c' ≤ 400)) := by
  have hm := C.2.2.2.2.2.1
  rw [z_sum_Ev]
  exact z_sumL (60 - m) 0 0 0 q_fu q_fu q_fu k p i c m j d σ K V (by omega) (by show _ < 5000; omega) (by show _ < 5000; omega) (by show _ < 5000; omega) (by omega) (Or.inl rfl) (Or.inl rfl) Y C (by rw [if_pos rfl]; omega) T hl
theorem z_dd_ref {d : g_S} {e : Int32} (D : z_dd d e) (a : Int32) : t_X3_refuse d a = some (0, d) := by
  unfold t_X3_refuse
  try dsimp only
  rw [if_neg (z_dd8 D)]
def z_cm (K : Nat) : Nat := if K = 60 then 10 else if K = 61 then 12 else if K = 62 then 14 else if K = 316 then 11 else if K = 318 then 13 else 0
theorem z_compar (K : Nat) (h : K < 717) : m_X6_comparison (nI K) = some (nI (z_cm K)) := by
  have ne : ∀ q : Nat, q < 717 → K ≠ q → ¬ nI K = nI q := fun q hq hn e => hn ((nI_eq (by omega) (by omega)).mp e)
  unfold m_X6_comparison z_cm
  by_cases c60 : K = 60
  · subst c60; rfl
  · by_cases c61 : K = 61
    · subst c61; rfl
    · by_cases c62 : K = 62
      · subst c62; rfl
      · by_cases c316 : K = 316
        · subst c316; rfl
        · by_cases c318 : K = 318
          · subst c318; rfl
          · rw [if_neg c60, if_neg c61, if_neg c62, if_neg c316, if_neg c318]
            rw [if_neg (show ¬ nI K = 60 from ne 60 (by decide) c60), if_neg (show ¬ nI K = 61 from ne 61 (by decide) c61), if_neg (show ¬ nI K = 62 from ne 62 (by decide) c62), if_neg (show ¬ nI K = 316 from ne 316 (by decide) c316), if_neg (show ¬ nI K = 318 from ne 318 (by decide) c318)]
            rfl
/-- the sign that compares, by its byte and the next -/
theorem z_ksign {p : Nat} (hp : p < N) : (z_u f p = 60 ∧ ((z_k1 f N p = 316 ∧ p + 1 < N ∧ z_u f (p + 1) = 61 ∧ z_nd f N p = p + 2) ∨ (z_k1 f N p = 60 ∧ ¬ (p + 1 < N ∧ z_u f (p + 1) = 61) ∧ z_nd f N p = p + 1))) ∨ (z_u f p = 62 ∧ ((z_k1 f N p = 318 ∧ p + 1 < N ∧ z_u f (p + 1) = 61 ∧ z_nd f N p = p + 2) ∨ (z_k1 f N p = 62 ∧ ¬ (p + 1 < N ∧ z_u f (p + 1) = 61) ∧ z_nd f N p = p + 1))) ∨ (z_u f p = 61 ∧ z_k1 f N p = 61 ∧ z_nd f N p = p + 1) ∨ (z_u f p ≠ 60 ∧ z_u f p ≠ 61 ∧ z_u f p ≠ 62 ∧ z_cm (z_k1 f N p) = 0) := by
  have hu := z_u_lt f p
  have ek : z_k1 f N p = z_kd f N p := if_pos hp
  rw [ek]
  rcases z_kd_cases f N p with ⟨x, h⟩ | ⟨x, y, h⟩ | ⟨x, y, ⟨h0, h1, h2, h⟩ | ⟨z, h⟩⟩
  · have := of_decide_eq_true x
    refine Or.inr (Or.inr (Or.inr ⟨by omega, by omega, by omega, ?_⟩))
    rw [h]
    decide
  · have := of_decide_eq_true y
    refine Or.inr (Or.inr (Or.inr ⟨by omega, by omega, by omega, ?_⟩))
    have hw := z_wi_lt (z_lw f N p)
    unfold z_cm
    rw [if_neg (by omega), if_neg (by omega), if_neg (by omega), if_neg (by omega), if_neg (by omega)]
  · have hn : z_nd f N p = p + 2 := by
      unfold z_nd
      rw [if_neg x, if_neg y, if_pos ⟨h0, h1, h2⟩]
    rcases h0 with h0 | h0
    · exact Or.inl ⟨h0, Or.inl ⟨by omega, h1, h2, hn⟩⟩
    · exact Or.inr (Or.inl ⟨h0, Or.inl ⟨by omega, h1, h2, hn⟩⟩)
  · have hn : z_nd f N p = p + 1 := by
      unfold z_nd
      rw [if_neg x, if_neg y, if_neg z]
    by_cases a : z_u f p = 60
    · exact Or.inl ⟨a, Or.inr ⟨by omega, fun q => z ⟨Or.inl a, q⟩, hn⟩⟩
    · by_cases b : z_u f p = 62
      · exact Or.inr (Or.inl ⟨b, Or.inr ⟨by omega, fun q => z ⟨Or.inr b, q⟩, hn⟩⟩)
      · by_cases c : z_u f p = 61
        · exact Or.inr (Or.inr (Or.inl ⟨c, by omega, hn⟩))
        · refine Or.inr (Or.inr (Or.inr ⟨a, c, b, ?_⟩))
          unfold z_cm
          rw [if_neg (by omega), if_neg (by omega), if_neg (by omega), if_neg (by omega), if_neg (by omega)]
end SX
