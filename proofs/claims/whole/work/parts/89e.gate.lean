/-! ===== L3: the gates of the calls ===== -/
theorem z_rng (a : Int32) (lo hi : Nat) {L H : Int32} {L' H' : Int64} (hlo : lo < 2 ^ 31) (hhi : hi < 2 ^ 31) (eL : L = nI lo) (eH : H = nI hi) (eL' : L' = (nI lo).toInt64) (eH' : H' = (nI hi).toInt64) :
    (∃ m, lo ≤ m ∧ m ≤ hi ∧ a = nI m ∧ m_X12_in a.toInt64 L' H' = some 1 ∧ ¬ a < L ∧ ¬ H < a ∧ a ≤ H) ∨ (m_X12_in a.toInt64 L' H' = some 0 ∧ (a < L ∨ (¬ a < L ∧ H < a ∧ ¬ a ≤ H))) := by
  subst eL eH eL' eH'
  have g1 := @z_lg_ge a.toInt64 (nI lo).toInt64
  have g2 := @z_lg_le a.toInt64 (nI hi).toInt64
  rw [z_toL hlo, Int32.toInt_toInt64] at g1
  rw [z_toL hhi, Int32.toInt_toInt64] at g2
  have l1 : a < nI lo ↔ a.toInt < lo := by rw [Int32.lt_iff_toInt_lt, nI_toInt hlo]
  have l2 : nI hi < a ↔ (hi : Int) < a.toInt := by rw [Int32.lt_iff_toInt_lt, nI_toInt hhi]
  have l3 : a ≤ nI hi ↔ a.toInt ≤ hi := by rw [Int32.le_iff_toInt_le, nI_toInt hhi]
  unfold m_X12_in
  by_cases c1 : (lo : Int) ≤ a.toInt
  · have n1 : ¬ lg_cmp a.toInt64 (nI lo).toInt64 < 0 := by rw [Int32.not_lt]; exact g1.mpr c1
    rw [if_neg n1]
    by_cases c2 : a.toInt ≤ hi
    · left
      obtain ⟨m, hm, rfl⟩ := nI_of (x := a) (by rw [Int32.lt_iff_toInt_lt]; rw [show (0 : Int32).toInt = 0 by decide]; omega)
      rw [nI_toInt hm] at c1 c2 l1 l2 l3
      refine ⟨m, by omega, by omega, rfl, ?_, by rw [l1]; omega, by rw [l2]; omega, l3.mpr c2⟩
      rw [if_neg (by rw [Int32.not_lt]; exact g2.mpr (by rw [nI_toInt hm]; exact c2))]
    · right
      rw [if_pos (show 0 < lg_cmp a.toInt64 (nI hi).toInt64 by rw [← Int32.not_le]; exact fun e => c2 (g2.mp e))]
      exact ⟨rfl, Or.inr ⟨by rw [l1]; omega, by rw [l2]; omega, by rw [l3]; omega⟩⟩
  · right
    rw [if_pos (show lg_cmp a.toInt64 (nI lo).toInt64 < 0 by rw [← Int32.not_le]; exact fun e => c1 (g1.mp e))]
    exact ⟨rfl, Or.inl (by rw [l1]; omega)⟩
section GA
variable {b z c n po : Nat} {o : g_S} {κ κ' : Nat → g_S} {σ σ' : r_S} {h h' : q_H}
/-- a state as a call finds it: no ROPE, or one -/
theorem z_view (I : z_I b z h) : ∃ c κ σ, z_W b κ h ∧ z_ref b σ h ∧ z_J b z c κ σ h ∧ ((g_P (κ 6) 0 = none ∧ (∀ j, j < 106 → r_A σ 20 j = 0) ∧ z_t (κ 7) (r_A σ 20) 0) ∨ ∃ n po o nc, z_X b n po c o κ σ h ∧ z_nt (κ 6) (r_A σ 20) nc ∧ po + 5 ≤ z) := by
  obtain ⟨c, κ, σ, W, R, J⟩ := I
  refine ⟨c, κ, σ, W, R, J, ?_⟩
  obtain ⟨nc, hnc⟩ := J.2.2.2.1.2.2.2.2.1
  rcases J.2.2.2.1.2.2.2.2.2 with h | ⟨po, o, n, x1, x2, x3, x4, x5, x6, x7, x8, x9⟩
  · exact Or.inl h
  · exact Or.inr ⟨n, po, o, nc, z_X_of W J x1 x2 x4 x5 x6 x7 x8 x9, hnc, x3⟩
theorem z_isRope0 (H : ∀ j, j < 106 → r_A σ 20 j = 0) : t_X12_isRope σ = some 0 := by
  unfold t_X12_isRope
  rw [z_a0, Option.bind_some, H 0 (by decide), if_neg (by decide)]
theorem z_isPuller0 (H : ∀ j, j < 106 → r_A σ 20 j = 0) (a : Int32) : t_X12_isPuller σ a = some 0 := by
  unfold t_X12_isPuller
  by_cases c : a < 0
  · rw [if_pos c]
  · rw [if_neg c, z_a3, Option.bind_some, H 3 (by decide), if_pos (Int32.not_lt.mp c)]
theorem z_has0 (W : z_W b κ h) (e : g_P (κ 6) 0 = none) (a : Int32) : q_ca 0 h (b + 13) (m_X0_has h (b + 13) a) = some 0 := by
  rw [ca0 (Ww6 W)]
  unfold m_X0_has
  by_cases c : a < 0
  · rw [if_pos c]
  · rw [if_neg c, ca0 (Ww6 W)]
    unfold m_X0_pullers
    rw [Wgo W, e, Option.bind_some, if_pos rfl, Option.bind_some, if_pos (Int32.not_lt.mp c)]
theorem z_hasP (X : z_X b n po c o κ σ h) (a : Int32) : (∃ p, p < n ∧ a = nI p ∧ q_ca 0 h (b + 13) (m_X0_has h (b + 13) a) = some 1 ∧ t_X12_isPuller σ a = some 1) ∨ (q_ca 0 h (b + 13) (m_X0_has h (b + 13) a) = some 0 ∧ t_X12_isPuller σ a = some 0) := by
  have W := X.1
  have hn : n ≤ 8 := X.2.2.2.2.2.1.1
  have hp : q_ca 0 h (b + 13) (m_X0_pullers h (b + 13)) = some (nI n) := by
    rw [ca0 (Ww6 W)]
    unfold m_X0_pullers
    rw [Wgo W, X.2.1, Option.bind_some, if_neg (by intro e; cases e), Wgr W X.2.1, Option.bind_some, gi4_3 X.2.2.2.1, Option.bind_some, X.2.2.2.2.1.1]
  rw [ca0 (Ww6 W)]
  unfold m_X0_has t_X12_isPuller
  rw [hp, z_a3, X.2.2.2.2.2.1.2.2.1]
  by_cases c : a < 0
  · rw [if_pos c]
    exact Or.inr ⟨rfl, rfl⟩
  · rw [if_neg c, Option.bind_some]
    obtain ⟨p, hp1, rfl⟩ := nI_of c
    by_cases c2 : n ≤ p
    · rw [if_pos (nI_le c2 hp1)]
      exact Or.inr ⟨rfl, rfl⟩
    · rw [if_neg (nI_ge (show p < n by omega) (by omega))]
      exact Or.inl ⟨p, by omega, rfl, rfl, rfl⟩
/-- nothing happens -/
theorem z_no (R : z_ref b σ h) : r_H (b + 152) σ h = h := z_rH R
theorem z_fs (R : z_ref b σ h) : ∃ fs, h (b + 152) = .inr (12, fs) := ⟨_, R 0 (by decide)⟩
theorem z_ref_q (R : z_ref b σ h) (F : ∀ a, b + 152 ≤ a → a < b + 175 → h' a = h a) : z_ref b σ h' := fun i hi => (F _ (by omega) (by omega)).trans (R i hi)
/-- it was asked -/
theorem z_ask (R : z_ref b σ h) (J : z_J b z c κ σ h) (Q : z_q b κ κ' h h') (K : z_k σ σ') (h20 : r_A σ' 20 = r_A σ 20) (h23 : r_A σ' 23 = r_A σ 23) (h21 : r_I σ' 21 = r_I σ 21) : (∃ fs, h' (b + 152) = .inr (12, fs)) ∧ r_H (b + 152) σ h' = h' ∧ z_I b z (r_H (b + 152) σ' h') := by
  have R' : z_ref b σ h' := z_ref_q R (fun a h1 _ => Q.2.2 a h1)
  exact ⟨z_fs R', z_rH R', c, κ', σ', z_J_q J Q K h20 h23 h21⟩
end GA
theorem z_rowW {w x1 x2 : Int32} (hw : ¬ w = 0) (h2 : x2 < w) : ∀ (fu : Nat) (σ : r_S) (x4 x5 x6 r : Int32) (σ' : r_S), t_X12_row_48 fu σ x1 x2 0 x4 x5 x6 = some (r, σ') → t_X12_row_48 fu σ x1 x2 w x4 x5 x6 = some (-1, σ')
  | 0, _, _, _, _, _, _, e => by cases e
  | fu + 1, σ, x4, x5, x6, r, σ', e => by
    rw [t_X12_row_48] at e ⊢
    by_cases c1 : ((1 : Int32) <<< (((2 : Int32) * x2) &&& 31)) ≤ x6
    · rw [if_pos c1, if_pos rfl] at e
      rw [if_pos c1, if_neg hw, if_pos h2]
      injection e with e
      injection e with e1 e2
      rw [e2]
    · rw [if_neg c1] at e ⊢
      cases f : t_X12_farBy σ x1 x2 x6 with
      | none => rw [f] at e; cases e
      | some y =>
        rw [f, Option.bind_some] at e
        rw [Option.bind_some]
        try dsimp only at e ⊢
        unfold t_X12_row_83 t_X12_row_91 at e ⊢
        by_cases c2 : x4 < 0
        · rw [if_pos c2] at e ⊢
          exact z_rowW hw h2 fu _ _ _ _ _ _ e
        · rw [if_neg c2] at e ⊢
          by_cases c3 : x5 < y.1
          · rw [if_pos c3] at e ⊢
            exact z_rowW hw h2 fu _ _ _ _ _ _ e
          · rw [if_neg c3] at e ⊢
            exact z_rowW hw h2 fu _ _ _ _ _ _ e
