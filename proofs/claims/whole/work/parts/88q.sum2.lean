/-! ===== L3: SUMS in step ===== -/
section SV
variable {f : Nat → Int32} {N r : Nat}
/-- the reference's loop of a term, at a sign -/
theorem z_term9 {d : g_S} {σ : r_S} {k p i : Nat} (Y : z_y d σ f N k p i) (n : Nat) : t_X12_term_9 (n + 1) σ = if 7 ≤ z_ar (z_k1 f N p) then (t_X12_value (z_nx σ (p + 1))).bind (fun x => if x.1 = 0 then some (0, x.2) else (t_X12_puts x.2 (nI (z_cv (z_ar (z_k1 f N p)))) 0).bind fun s => t_X12_term_9 n s) else some (1, z_nx σ p) := by
  have Y0 := z_y_nx Y
  have es := z_y_see Y
  have es0 := z_y_see Y0
  rw [z_nxx] at es0
  have s42 := z_sign (f := f) (N := N) (p := p) (c := 42) (by decide) (by omega) (by decide)
  have s47 := z_sign (f := f) (N := N) (p := p) (c := 47) (by decide) (by omega) (by decide)
  have s37 := z_sign (f := f) (N := N) (p := p) (c := 37) (by decide) (by omega) (by decide)
  have go : ∀ q, z_k1 f N p = q → (q = 42 ∨ q = 47 ∨ q = 37) → t_X12_term_36 (t_X12_term_9 n) (z_nx σ p) = (t_X12_value (z_nx σ (p + 1))).bind (fun x => if x.1 = 0 then some (0, x.2) else (t_X12_puts x.2 (nI (z_cv (z_ar q))) 0).bind fun s => t_X12_term_9 n s) := fun q hq h => by
    obtain ⟨hp, hf, -⟩ := z_pass1 Y hq (by omega)
    have hN := Y.1.2.2.1
    have e74 : ∀ x, t_X12_term_74 (t_X12_term_9 n) (z_nx σ p) x = (t_X12_value (z_nx σ (p + 1))).bind (fun y => if y.1 = 0 then some (0, y.2) else (t_X12_puts y.2 x 0).bind fun s => t_X12_term_9 n s) := fun x => by
      unfold t_X12_term_74
      try dsimp only
      rw [z_nx_si σ p _ (by rw [z_nx8, nI_1])]
    unfold t_X12_term_36
    try dsimp only
    rw [z_nx8, z_nxA, Y.1.1, t_ai_in (by omega) (by decide), Option.bind_some, hf]
    rcases h with rfl | rfl | rfl
    · rw [if_pos (show nI 42 = (42 : Int32) from rfl), e74]
      rfl
    · rw [if_neg (show ¬ nI 47 = (42 : Int32) by decide), Option.bind_some, if_pos (show nI 47 = (47 : Int32) from rfl), e74]
      rfl
    · rw [if_neg (show ¬ nI 37 = (42 : Int32) by decide), Option.bind_some, if_neg (show ¬ nI 37 = (47 : Int32) by decide), e74]
      rfl
  rw [t_X12_term_9, es, Option.bind_some]
  try dsimp only
  by_cases c42 : z_k1 f N p = 42
  · rw [if_pos (show (if p < N then nI (z_u f p) else (-1 : Int32)) = (42 : Int32) from s42.mpr c42), go 42 c42 (Or.inl rfl), c42, if_pos (by decide)]
  · rw [if_neg (show ¬ (if p < N then nI (z_u f p) else (-1 : Int32)) = (42 : Int32) from fun e => c42 (s42.mp e)), es0, Option.bind_some]
    try dsimp only
    by_cases c47 : z_k1 f N p = 47
    · rw [if_pos (show (if p < N then nI (z_u f p) else (-1 : Int32)) = (47 : Int32) from s47.mpr c47), go 47 c47 (Or.inr (Or.inl rfl)), c47, if_pos (by decide)]
    · rw [if_neg (show ¬ (if p < N then nI (z_u f p) else (-1 : Int32)) = (47 : Int32) from fun e => c47 (s47.mp e)), es0, Option.bind_some]
      try dsimp only
      by_cases c37 : z_k1 f N p = 37
      · rw [if_pos (show (if p < N then nI (z_u f p) else (-1 : Int32)) = (37 : Int32) from s37.mpr c37), go 37 c37 (Or.inr (Or.inr rfl)), c37, if_pos (by decide)]
      · rw [if_neg (show ¬ (if p < N then nI (z_u f p) else (-1 : Int32)) = (37 : Int32) from fun e => c37 (s37.mp e)), if_neg (show ¬ 7 ≤ z_ar (z_k1 f N p) by
          unfold z_ar
          rw [if_neg c37, if_neg c42]
          split
          · decide
          · split
            · decide
            · decide)]
/-- the reference's loop of a sum, at a sign -/
theorem z_sum9 {d : g_S} {σ : r_S} {k p i : Nat} (Y : z_y d σ f N k p i) (n : Nat) (h7 : z_ar (z_k1 f N p) < 7) : t_X12_sum_9 (n + 1) σ = if z_ar (z_k1 f N p) = 0 then some (1, z_nx σ p) else z_Ev (z_ar (z_k1 f N p)) 0 q_fu n (z_nx σ (p + 1)) := by
  have Y0 := z_y_nx Y
  have es := z_y_see Y
  have es0 := z_y_see Y0
  rw [z_nxx] at es0
  have s43 := z_sign (f := f) (N := N) (p := p) (c := 43) (by decide) (by omega) (by decide)
  have s45 := z_sign (f := f) (N := N) (p := p) (c := 45) (by decide) (by omega) (by decide)
  have go : ∀ q, z_k1 f N p = q → (q = 43 ∨ q = 45) → t_X12_sum_27 (t_X12_sum_9 n) (z_nx σ p) = z_Ev (z_ar q) 0 q_fu n (z_nx σ (p + 1)) := fun q hq h => by
    obtain ⟨hp, hf, -⟩ := z_pass1 Y hq (by omega)
    have hN := Y.1.2.2.1
    have e46 : ∀ A, A ≠ 0 → t_X12_sum_46 (t_X12_sum_9 n) (z_nx σ p) (nI (z_cv A)) = z_Ev A 0 q_fu n (z_nx σ (p + 1)) := fun A hA => by
      unfold t_X12_sum_46 z_Ev t_X12_term
      try dsimp only
      rw [z_nx_si σ p _ (by rw [z_nx8, nI_1])]
      congr 1
      funext x
      unfold z_G
      rw [if_neg hA]
    unfold t_X12_sum_27
    try dsimp only
    rw [z_nx8, z_nxA, Y.1.1, t_ai_in (by omega) (by decide), Option.bind_some, hf]
    rcases h with rfl | rfl
    · rw [if_pos (show nI 43 = (43 : Int32) from rfl)]
      exact e46 5 (by decide)
    · rw [if_neg (show ¬ nI 45 = (43 : Int32) by decide)]
      exact e46 6 (by decide)
  rw [t_X12_sum_9, es, Option.bind_some]
  try dsimp only
  by_cases c43 : z_k1 f N p = 43
  · rw [if_pos (show (if p < N then nI (z_u f p) else (-1 : Int32)) = (43 : Int32) from s43.mpr c43), go 43 c43 (Or.inl rfl), c43, if_neg (by decide)]
  · rw [if_neg (show ¬ (if p < N then nI (z_u f p) else (-1 : Int32)) = (43 : Int32) from fun e => c43 (s43.mp e)), es0, Option.bind_some]
    try dsimp only
    by_cases c45 : z_k1 f N p = 45
    · rw [if_pos (show (if p < N then nI (z_u f p) else (-1 : Int32)) = (45 : Int32) from s45.mpr c45), go 45 c45 (Or.inr rfl), c45, if_neg (by decide)]
    · rw [if_neg (show ¬ (if p < N then nI (z_u f p) else (-1 : Int32)) = (45 : Int32) from fun e => c45 (s45.mp e)), if_pos (show z_ar (z_k1 f N p) = 0 by
        unfold z_ar at h7 ⊢
        by_cases a : z_k1 f N p = 37
        · rw [if_pos a] at h7; omega
        · by_cases b : z_k1 f N p = 42
          · rw [if_neg a, if_pos b] at h7; omega
          · by_cases e : z_k1 f N p = 47
            · rw [if_neg a, if_neg b, if_neg c43, if_neg c45, if_pos e] at h7; omega
            · rw [if_neg a, if_neg b, if_neg c43, if_neg c45, if_neg e])]
end SV
