/-! ===== L3: SUMS, both sides ===== -/
def z_tt (K : Nat → Nat) (c0 c : Nat) (S : List Bool) : Prop := c0 ≤ c ∧ z_ty K (c - c0) c0 [] = some S
theorem z_ty_ext {K K' : Nat → Nat} : ∀ (m i : Nat) (S : List Bool), (∀ q, i ≤ q → q < i + m → K' q = K q) → z_ty K' m i S = z_ty K m i S
  | 0, _, _, _ => rfl
  | m + 1, i, S, h => by
    rw [z_ty, z_ty, h i (by omega) (by omega)]
    cases z_t1 (K i) S with
    | none => rfl
    | some S' => exact z_ty_ext m (i + 1) S' (fun q h1 h2 => h q (by omega) (by omega))
theorem z_ty_snoc {K : Nat → Nat} : ∀ (m i : Nat) (S : List Bool), z_ty K (m + 1) i S = (z_ty K m i S).bind (z_t1 (K (i + m)))
  | 0, i, S => by
    rw [z_ty, z_ty, Nat.add_zero, Option.bind_some]
    cases z_t1 (K i) S with
    | none => rfl
    | some S' => rfl
  | m + 1, i, S => by
    rw [z_ty, z_ty]
    cases h : z_t1 (K i) S with
    | none => rfl
    | some S' =>
      rw [Option.bind_some, Option.bind_some, z_ty_snoc m (i + 1) S', show i + 1 + m = i + (m + 1) by omega]
theorem z_tt_put {K : Nat → Nat} {c0 c k : Nat} {S S' : List Bool} (T : z_tt K c0 c S) (h : z_t1 k S = some S') : z_tt (z_un K c k) c0 (c + 1) S' := by
  obtain ⟨t1, t2⟩ := T
  refine ⟨by omega, ?_⟩
  rw [show c + 1 - c0 = (c - c0) + 1 by omega, z_ty_snoc, show c0 + (c - c0) = c by omega, z_ty_ext (K := K) _ _ _ (fun q h1 h2 => by unfold z_un; rw [if_neg (by omega)]), t2, Option.bind_some, show z_un K c k c = k from if_pos rfl]
  exact h
def z_ar (K : Nat) : Nat := if K = 37 then 9 else if K = 42 then 7 else if K = 43 then 5 else if K = 45 then 6 else if K = 47 then 8 else 0
theorem z_arith (K : Nat) (h : K < 717) : m_X6_arithmetic (nI K) = some (nI (z_ar K)) := by
  have ne : ∀ q : Nat, q < 717 → K ≠ q → ¬ nI K = nI q := fun q hq hn e => hn ((nI_eq (by omega) (by omega)).mp e)
  unfold m_X6_arithmetic z_ar
  by_cases c37 : K = 37
  · subst c37; rfl
  · by_cases c42 : K = 42
    · subst c42; rfl
    · by_cases c43 : K = 43
      · subst c43; rfl
      · by_cases c45 : K = 45
        · subst c45; rfl
        · by_cases c47 : K = 47
          · subst c47; rfl
          · rw [if_neg c37, if_neg c42, if_neg c43, if_neg c45, if_neg c47]
            rw [if_neg (show ¬ nI K = 37 from ne 37 (by decide) c37), if_neg (show ¬ nI K = 42 from ne 42 (by decide) c42), if_neg (show ¬ nI K = 43 from ne 43 (by decide) c43), if_neg (show ¬ nI K = 45 from ne 45 (by decide) c45), if_neg (show ¬ nI K = 47 from ne 47 (by decide) c47)]
            split
            · rfl
            · split
              · rfl
              · split
                · rfl
                · split
                  · rfl
                  · split
                    · rfl
                    · split <;> rfl
/-- the reference goes on behind a term -/
def z_G (A n : Nat) (x : Int32 × r_S) : Option (Int32 × r_S) := if x.1 = 0 then some (0, x.2) else if A = 0 then t_X12_sum_9 n x.2 else (t_X12_puts x.2 (nI (z_cv A)) 0).bind fun s => t_X12_sum_9 n s
def z_Ev (A B ft fs : Nat) (σ : r_S) : Option (Int32 × r_S) := ((t_X12_value σ).bind fun x => if x.1 = 0 then some (0, x.2) else if B = 0 then t_X12_term_9 ft x.2 else (t_X12_puts x.2 (nI (z_cv B)) 0).bind fun s => t_X12_term_9 ft s).bind (z_G A fs)
section SU
variable {f : Nat → Int32} {N r : Nat}
theorem z_y_f1 {d : g_S} {σ σ' : r_S} {k p i : Nat} (Y : z_y d σ f N k p i) (F : z_f1 r σ σ') (h8 : r_I σ' 8 = r_I σ 8) (h9 : r_I σ' 9 = r_I σ 9) : z_y d σ' f N k p i := by
  obtain ⟨y1, y2, y3, y4, y5, y6, y7⟩ := Y
  exact ⟨⟨(F.1 0 (by decide) (by decide)).trans y1.1, (F.2.2.2.1 1 (by decide) (by decide) (by decide) (by decide)).trans y1.2.1, y1.2.2⟩, h8.trans y2, y3, y4, y5, y6, h9.trans y7⟩
/-- a sign of one byte at p: its byte, and both sides pass it -/
theorem z_pass1 {d : g_S} {σ : r_S} {k p i q : Nat} (Y : z_y d σ f N k p i) (hq : z_k1 f N p = q) (h1 : q < 48 ∨ q = 91 ∨ q = 93 ∨ q = 61) : p < N ∧ f p = nI q ∧ ∃ d', t_X3_next d = some d' ∧ z_y d' (z_nx σ (p + 1)) f N (k + 1) (z_S (z_u f) N (p + 1)) (p + 1) ∧ g_P d' = g_P d := by
  have hpN : p < N := by
    by_cases c : p < N
    · exact c
    · have := (z_k1_end f N p).mpr c
      omega
  have hk : z_kd f N p = q := by unfold z_k1 at hq; rwa [if_pos hpN] at hq
  have hu := z_u_lt f p
  obtain ⟨y1, y2, y3, y4, y5, y6, y7⟩ := Y
  have hh : z_u f p = q ∧ z_nd f N p = p + 1 := by
    rcases z_kd_cases f N p with ⟨x, h⟩ | ⟨-, -, h⟩ | ⟨x, y, ⟨h0, -, -, h⟩ | ⟨z, h⟩⟩
    · omega
    · have := z_wi_lt (z_lw f N p)
      omega
    · omega
    · unfold z_nd
      rw [if_neg x, if_neg y, if_neg z]
      omega
  have Yb : z_yb d (z_nx σ (p + 1)) f N k p := ⟨z_rd_nx y1 _, by rw [z_nx8, hh.2], hpN, y5, y6, (z_nxI (by decide)).trans y7⟩
  obtain ⟨d', n1, n2, n3⟩ := z_yb_next Yb
  rw [hh.2] at n2
  refine ⟨hpN, ?_, d', n1, n2, n3⟩
  rcases z_byte y1.2.2 hpN with h | h
  · rw [h.2, hh.1]
  · omega
end SU
