/-! ===== L3: LOOK, both sides ===== -/
theorem z_lkL {b c : Nat} {κ : Nat → g_S} {σ : r_S} {h : q_H} (W : z_W b κ h) (hc6 : c ≤ 6) (hc : r_I σ 2 = nI c) {F : Nat} {M : Nat → Nat} (hF : F ≤ 7) (hM1 : ∀ k, k < 61 → m_X8_mostAlike h (b + 130) (nI k) (nI F) = some (nI (M k))) (hM2 : ∀ k, k < 61 → t_X12_alikeAt σ (nI k) = some (nI (M k))) (hM0 : ∀ k, k < 61 → 1 ≤ M k ∧ M k ≤ 7) (wh : Int32) : ∀ (m k fu fu' best few : Nat), k + m = 61 → m < fu → m < fu' → best < 61 → few ≤ 7 → ∃ r, m_X8_bestPlaceToLook_67 fu h (b + 130) wh (nI F) (nI best) (nI few) (nI k) = some (r, h) ∧ t_X12_look_32 fu' σ wh (nI best) (nI few) (nI k) = some (r, σ) := by
  intro m
  induction m with
  | zero =>
    intro k fu fu' best few hk hf hf' hb hw
    obtain ⟨fu, rfl⟩ := Nat.exists_eq_succ_of_ne_zero (show fu ≠ 0 by omega)
    obtain ⟨fu', rfl⟩ := Nat.exists_eq_succ_of_ne_zero (show fu' ≠ 0 by omega)
    have hk60 : (60 : Int32) < nI k := nI_lt (a := 60) (by omega) (by omega)
    refine ⟨if wh = 0 then nI best else nI few, ?_, ?_⟩
    · rw [m_X8_bestPlaceToLook_67, if_pos hk60]
      split <;> rfl
    · rw [t_X12_look_32, if_pos hk60]
      split <;> rfl
  | succ m ih =>
    intro k fu fu' best few hk hf hf' hb hw
    obtain ⟨fu, rfl⟩ := Nat.exists_eq_succ_of_ne_zero (show fu ≠ 0 by omega)
    obtain ⟨fu', rfl⟩ := Nat.exists_eq_succ_of_ne_zero (show fu' ≠ 0 by omega)
    have hk60 : ¬ (60 : Int32) < nI k := nI_nlt (b := k) (a := 60) (by omega) (by decide)
    obtain ⟨m1, m2⟩ := hM0 k (by omega)
    by_cases cc : few ≤ M k
    · obtain ⟨r, a1, a2⟩ := ih (k + 1) fu fu' best few (by omega) (by omega) (by omega) hb hw
      refine ⟨r, ?_, ?_⟩
      · rw [m_X8_bestPlaceToLook_67, if_neg hk60, Wca8 W, hM1 k (by omega), Option.bind_some, if_pos (nI_le cc (by omega)), m_X8_bestPlaceToLook_98, nI_1]
        exact a1
      · rw [t_X12_look_32, if_neg hk60, hM2 k (by omega), Option.bind_some, if_neg (nI_ne0 (by omega) (by omega)), if_neg (nI_pos (by omega)), if_neg (nI_nlt cc (by omega)), t_X12_look_71, nI_1]
        exact a2
    · obtain ⟨r, a1, a2⟩ := ih (k + 1) fu fu' k (M k) (by omega) (by omega) (by omega) (by omega) m2
      refine ⟨r, ?_, ?_⟩
      · rw [m_X8_bestPlaceToLook_67, if_neg hk60, Wca8 W, hM1 k (by omega), Option.bind_some, if_neg (nI_ge (show M k < few by omega) (by omega)), m_X8_bestPlaceToLook_98, nI_1]
        exact a1
      · rw [t_X12_look_32, if_neg hk60, hM2 k (by omega), Option.bind_some, if_neg (nI_ne0 (by omega) (by omega)), if_neg (nI_pos (by omega)), if_pos (nI_lt (show M k < few by omega) (by omega)), t_X12_look_65, t_X12_look_71, nI_1]
        exact a2
theorem z_lk0 {σ : r_S} (hM2 : ∀ k, k < 61 → t_X12_alikeAt σ (nI k) = some 0) (wh : Int32) : ∀ (m k fu' : Nat), k + m = 61 → m < fu' → t_X12_look_32 fu' σ wh (-2) (-2) (nI k) = some (-2, σ) := by
  intro m
  induction m with
  | zero =>
    intro k fu' hk hf'
    obtain ⟨fu', rfl⟩ := Nat.exists_eq_succ_of_ne_zero (show fu' ≠ 0 by omega)
    have hk60 : (60 : Int32) < nI k := nI_lt (a := 60) (by omega) (by omega)
    rw [t_X12_look_32, if_pos hk60]
    split <;> rfl
  | succ m ih =>
    intro k fu' hk hf'
    obtain ⟨fu', rfl⟩ := Nat.exists_eq_succ_of_ne_zero (show fu' ≠ 0 by omega)
    have hk60 : ¬ (60 : Int32) < nI k := nI_nlt (b := k) (a := 60) (by omega) (by decide)
    rw [t_X12_look_32, if_neg hk60, hM2 k (by omega), Option.bind_some, if_pos rfl, t_X12_look_71, nI_1]
    exact ih (k + 1) fu' (by omega) (by omega)
theorem z_lkC {b n po c nc : Nat} {o : g_S} {κ0 : Nat → g_S} {σ0 σf : r_S} {h0 : q_H} (X : z_X b n po c o κ0 σ0 h0) (hN : z_nt (κ0 6) (r_A σ0 20) nc) (hF : ∀ i, i ≤ c → ∃ x, z_ft σ0 σf i x) (wh : Int32) : ∀ (m r fu : Nat) (κ : Nat → g_S) (h : q_H), r + m = c + 1 → m < fu → z_q b κ0 κ h0 h → (∀ j, j < r → z_fb σf j = true → ∀ k, k < 61 → g_A (κ 14) (z_c (z_fb σf) j) k = r_A σf 31 (61 * j + k)) → ∃ h' κ', m_X8_bestPlaceToLook_5 fu h (b + 130) (nI c) wh (nI (z_c (z_fb σf) r)) (nI r - 1) = (if nI (z_c (z_fb σf) (c + 1)) = 0 then some (-2, h') else m_X8_bestPlaceToLook_67 q_fu h' (b + 130) wh (nI (z_c (z_fb σf) (c + 1))) 0 (nI (z_c (z_fb σf) (c + 1))) 0) ∧ z_q b κ0 κ' h0 h' ∧ (∀ j, j < c + 1 → z_fb σf j = true → ∀ k, k < 61 → g_A (κ' 14) (z_c (z_fb σf) j) k = r_A σf 31 (61 * j + k)) := by
  have hc6 : c ≤ 6 := (X.2.2.2.2.2.2.2.2.2.1).1
  have i1 : ∀ c, c < 7 → ∀ r, r < 8 → ((nI c ≤ nI r - 1) ↔ c < r) := by decide +kernel
  have i2 : ∀ r, r < 8 → nI r - 1 + 1 = nI (r + 1) - 1 := by decide +kernel
  intro m
  induction m with
  | zero =>
    intro r fu κ h hr hf Q ht
    obtain ⟨fu, rfl⟩ := Nat.exists_eq_succ_of_ne_zero (show fu ≠ 0 by omega)
    obtain rfl : r = c + 1 := hr
    refine ⟨h, κ, ?_, Q, ht⟩
    rw [m_X8_bestPlaceToLook_5, if_pos ((i1 c (by omega) (c + 1) (by omega)).mpr (by omega))]
  | succ m ih =>
    intro r fu κ h hr hf Q ht
    obtain ⟨fu, rfl⟩ := Nat.exists_eq_succ_of_ne_zero (show fu ≠ 0 by omega)
    have hrc : r ≤ c := by omega
    obtain ⟨x, F⟩ := hF r hrc
    obtain ⟨ro, h1, κ1, r1, r2, r3, r4⟩ := z_fitC X hN hrc F Q
    have F' := F
    obtain ⟨σs, σ1, σ2, f1, f2, f3, f4, f5, f6, f7, f8, f9, f10, f11⟩ := F'
    have hle := z_c_le (z_fb σf) r
    have hgo : ¬ nI c ≤ nI r - 1 := fun e => by have := (i1 c (by omega) r (by omega)).mp e; omega
    rcases f9 with rfl | rfl
    · have hfb : ¬ z_fb σf r = true := fun e => (of_decide_eq_true e) f10
      obtain ⟨h', κ', a1, a2, a3⟩ := ih (r + 1) fu κ1 h1 (by omega) (by omega) r3 (fun j hj hfj k hk => by
        have : j ≠ r := fun e => hfb (by rw [← e]; exact hfj)
        rw [r4 14 (by decide) (by decide)]
        exact ht j (by omega) hfj k hk)
      refine ⟨h', κ', ?_, a2, a3⟩
      rw [z_c, if_neg hfb, Nat.add_zero] at a1
      rw [m_X8_bestPlaceToLook_5, if_neg hgo, We0 Q.1, Option.bind_some, Wgr Q.1 (z_Xpo X Q), Option.bind_some, Wca8 Q.1, r1, Option.bind_some, Wca8 Q.1, r2, Option.bind_some]
      try dsimp only
      rw [if_pos rfl, m_X8_bestPlaceToLook_45, i2 r (by omega)]
      exact a1
    · have hfb : z_fb σf r = true := decide_eq_true (by rw [f10]; decide)
      obtain ⟨ro2, h2, κ2, s1, s2, s3, s4, s5⟩ := z_folC X hN hrc (t := z_c (z_fb σf) r) (by omega) F r3
      obtain ⟨h', κ', a1, a2, a3⟩ := ih (r + 1) fu κ2 h2 (by omega) (by omega) s3 (fun j hj hfj k hk => by
        by_cases e : j = r
        · rw [e]; exact s4 k hk
        · have hlt := z_c_step (P := z_fb σf) hfj (show j < r by omega)
          rw [s5 _ (by omega), r4 14 (by decide) (by decide)]
          exact ht j (by omega) hfj k hk)
      refine ⟨h', κ', ?_, a2, a3⟩
      rw [z_c, if_pos hfb] at a1
      rw [m_X8_bestPlaceToLook_5, if_neg hgo, We0 Q.1, Option.bind_some, Wgr Q.1 (z_Xpo X Q), Option.bind_some, Wca8 Q.1, r1, Option.bind_some, Wca8 Q.1, r2, Option.bind_some]
      try dsimp only
      rw [if_neg (by decide), Wca8 r3.1, s1, Option.bind_some, Wca8 r3.1, s2, Option.bind_some, m_X8_bestPlaceToLook_45, i2 r (by omega), nI_1]
      exact a1
theorem z_look {b n po c nc : Nat} {o : g_S} {κ : Nat → g_S} {σ : r_S} {h : q_H} (X : z_X b n po c o κ σ h) (hN : z_nt (κ 6) (r_A σ 20) nc) (wh : Int32) :
    ∃ r h' κ' σ', m_X8_bestPlaceToLook h (b + 130) (nI c) wh = some (r, h') ∧ z_q b κ κ' h h' ∧ (t_X12_fillsFits σ).bind (fun σ6 => t_X12_look_32 q_fu σ6 wh (-2) (-2) 0) = some (r, σ') ∧ z_k σ σ' ∧ r_A σ' 20 = r_A σ 20 ∧ r_A σ' 23 = r_A σ 23 ∧ r_I σ' 21 = r_I σ 21 := by
  have hc6 : c ≤ 6 := (X.2.2.2.2.2.2.2.2.2.1).1
  obtain ⟨σf, f1, f2, f3, f4, f5, f6⟩ := z_fills X hN
  have hc : r_I σf 2 = nI c := (f2.1 2 (by decide) (by decide)).trans (X.2.2.2.2.2.2.2.2.2.1).2.2.1
  obtain ⟨h', κ', a1, a2, a3⟩ := z_lkC X hN f6 wh (c + 1) 0 q_fu κ h (by omega) (by show c + 1 < 5000; omega) (z_q_refl X.1) (fun j hj => absurd hj (Nat.not_lt_zero _))
  have hF7 : z_c (z_fb σf) (c + 1) ≤ c + 1 := z_c_le _ _
  have W := a2.1
  -- how many are alike: the same on both sides
  have hg : ∀ k, k < 61 → z_mx (fun t => z_c (fun x => decide (g_A (κ' 14) t k = g_A (κ' 14) x k)) (z_c (z_fb σf) (c + 1))) (z_c (z_fb σf) (c + 1)) = z_mx (fun a => if z_fb σf a then z_c (fun j => z_fb σf j && decide (r_A σf 31 (61 * a + k) = r_A σf 31 (61 * j + k))) (c + 1) else 0) (c + 1) := fun k hk => by
    have e1 := z_trk_m (fit := z_fb σf) (tr := fun t => g_A (κ' 14) t k) (rb := fun j => r_A σf 31 (61 * j + k)) (fun v => z_c (fun x => decide (v = g_A (κ' 14) x k)) (z_c (z_fb σf) (c + 1))) (k := c + 1) (fun j hj hfj => a3 j hj hfj k hk)
    refine e1.trans (z_mx_ext (fun j hj => ?_))
    by_cases cf : z_fb σf j = true
    · rw [if_pos cf, if_pos cf]
      exact z_trk_c (fit := z_fb σf) (tr := fun t => g_A (κ' 14) t k) (rb := fun j => r_A σf 31 (61 * j + k)) (r_A σf 31 (61 * j + k)) (k := c + 1) (fun j hj hfj => a3 j hj hfj k hk)
    · rw [if_neg cf, if_neg cf]
  have hle : ∀ k, z_mx (fun a => if z_fb σf a then z_c (fun j => z_fb σf j && decide (r_A σf 31 (61 * a + k) = r_A σf 31 (61 * j + k))) (c + 1) else 0) (c + 1) ≤ c + 1 := fun k => z_mx_le (fun j _ => by
    split
    · exact z_c_le _ _
    · omega)
  by_cases F0 : z_c (z_fb σf) (c + 1) = 0
  · refine ⟨-2, h', κ', σf, ?_, a2, ?_, f2, f3, f4, f5⟩
    · unfold m_X8_bestPlaceToLook
      refine Eq.trans a1 ?_
      rw [F0, if_pos (by decide)]
    · rw [f1, Option.bind_some]
      refine z_lk0 (fun k hk => ?_) wh 61 0 q_fu (by omega) (by show 61 < 5000; omega)
      rw [z_alikeAt hc6 hc hk, ← hg k hk, F0]
      rfl
  · have hM0 : ∀ k, k < 61 → 1 ≤ z_mx (fun a => if z_fb σf a then z_c (fun j => z_fb σf j && decide (r_A σf 31 (61 * a + k) = r_A σf 31 (61 * j + k))) (c + 1) else 0) (c + 1) ∧ z_mx (fun a => if z_fb σf a then z_c (fun j => z_fb σf j && decide (r_A σf 31 (61 * a + k) = r_A σf 31 (61 * j + k))) (c + 1) else 0) (c + 1) ≤ 7 := fun k hk => by
      refine ⟨?_, by have := hle k; omega⟩
      obtain ⟨p, p1, p2, -⟩ := z_c_hit (z_fb σf) (n := c + 1) (j := 0) (by omega)
      have g1 := z_mx_ge (f := fun a => if z_fb σf a then z_c (fun j => z_fb σf j && decide (r_A σf 31 (61 * a + k) = r_A σf 31 (61 * j + k))) (c + 1) else 0) p1
      try dsimp only at g1
      rw [if_pos p2] at g1
      have g2 := z_c_step (P := fun j => z_fb σf j && decide (r_A σf 31 (61 * p + k) = r_A σf 31 (61 * j + k))) (p := p) (q := c + 1) (by simp [p2]) p1
      omega
    -- the first HEAVE by itself
    obtain ⟨m1, m2⟩ := hM0 0 (by decide)
    have hM1 : ∀ k, k < 61 → m_X8_mostAlike h' (b + 130) (nI k) (nI (z_c (z_fb σf) (c + 1))) = some (nI (z_mx (fun a => if z_fb σf a then z_c (fun j => z_fb σf j && decide (r_A σf 31 (61 * a + k) = r_A σf 31 (61 * j + k))) (c + 1) else 0) (c + 1))) := fun k hk => by rw [z_most W hk (by omega), hg k hk]
    have hM2 : ∀ k, k < 61 → t_X12_alikeAt σf (nI k) = some (nI (z_mx (fun a => if z_fb σf a then z_c (fun j => z_fb σf j && decide (r_A σf 31 (61 * a + k) = r_A σf 31 (61 * j + k))) (c + 1) else 0) (c + 1))) := fun k hk => z_alikeAt hc6 hc hk
    have hMF : z_mx (fun a => if z_fb σf a then z_c (fun j => z_fb σf j && decide (r_A σf 31 (61 * a + 0) = r_A σf 31 (61 * j + 0))) (c + 1) else 0) (c + 1) ≤ z_c (z_fb σf) (c + 1) := by
      rw [← hg 0 (by decide)]
      exact z_mx_le (fun j _ => z_c_le _ _)
    obtain ⟨r, b1, b2⟩ := z_lkL W hc6 hc (F := z_c (z_fb σf) (c + 1)) (by omega) hM1 hM2 hM0 wh 60 1 4999 4999 0 _ (by omega) (by omega) (by omega) (by omega) m2
    refine ⟨r, h', κ', σf, ?_, a2, ?_, f2, f3, f4, f5⟩
    · unfold m_X8_bestPlaceToLook
      refine Eq.trans a1 ?_
      rw [if_neg (nI_ne0 (by omega) (by omega)), show q_fu = 4999 + 1 from rfl, m_X8_bestPlaceToLook_67, if_neg (by decide), Wca8 W, show m_X8_mostAlike h' (b + 130) 0 (nI (z_c (z_fb σf) (c + 1))) = _ from hM1 0 (by decide), Option.bind_some, m_X8_bestPlaceToLook_98, m_X8_bestPlaceToLook_98]
      by_cases cc : z_c (z_fb σf) (c + 1) ≤ z_mx (fun a => if z_fb σf a then z_c (fun j => z_fb σf j && decide (r_A σf 31 (61 * a + 0) = r_A σf 31 (61 * j + 0))) (c + 1) else 0) (c + 1)
      · rw [if_pos (nI_le cc (by omega)), show z_c (z_fb σf) (c + 1) = z_mx (fun a => if z_fb σf a then z_c (fun j => z_fb σf j && decide (r_A σf 31 (61 * a + 0) = r_A σf 31 (61 * j + 0))) (c + 1) else 0) (c + 1) by omega]
        rw [show z_c (z_fb σf) (c + 1) = z_mx (fun a => if z_fb σf a then z_c (fun j => z_fb σf j && decide (r_A σf 31 (61 * a + 0) = r_A σf 31 (61 * j + 0))) (c + 1) else 0) (c + 1) by omega] at b1
        exact b1
      · rw [if_neg (nI_ge (by omega) (by omega))]
        exact b1
    · rw [f1, Option.bind_some, show q_fu = 4999 + 1 from rfl, t_X12_look_32, if_neg (by decide), show t_X12_alikeAt σf 0 = _ from hM2 0 (by decide), Option.bind_some, if_neg (nI_ne0 (by omega) (by omega)), if_pos (by decide), t_X12_look_65, t_X12_look_71]
      exact b2
