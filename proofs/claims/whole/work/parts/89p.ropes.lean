/-! ===== L3: the calls rope and rule ===== -/
section RP
variable {b : Nat}
theorem z_tdr {t : g_S} {f : Nat → Int32} {v : Int32} (T : z_JT t f v) : ∃ N, z_td9 t f N ∧ ∀ σ : r_S, r_A σ 0 = f → r_I σ 1 = v → z_rd σ f N := by
  obtain ⟨n, t1, t2, t3, t4, t5⟩ := T
  exact ⟨n, ⟨t4, t2, t1, fun i _ => t5 i⟩, fun σ h0 h1 => ⟨h0, h1.trans t3, t1, fun i _ => t5 i⟩⟩
theorem z_JT0 {t : g_S} {f : Nat → Int32} {v : Int32} (T : z_JT t f v) : z_JT (g_si t 1 0) f 0 := by
  obtain ⟨n, t1, t2, t3, t4, t5⟩ := T
  exact ⟨0, by decide, z_si_I _ _ _, rfl, t4, t5⟩
theorem s_2 : q_st2 b (b + 152) (z_I b) := by
  intro z h I
  obtain ⟨c, κ, σ, W, R, J⟩ := I
  have hz := J.1
  obtain ⟨N, td, rd⟩ := z_tdr J.2.1
  obtain ⟨e, w', d', o', σ', x1, x2, x3, x4⟩ := z_ropeT (w := κ 3) (d := κ 2) (o := z_o0) td (rd σ rfl rfl) rfl rfl
  obtain ⟨y1, y2⟩ := z_ropeH W hz x1
  have kA : ∀ k, k ≠ 4 → k ≠ 7 → k ≠ 20 → r_A σ' k = r_A σ k := x3.1
  have kI : ∀ k, k = 2 ∨ k = 21 ∨ k = 22 → r_I σ' k = r_I σ k := fun k hk => x3.2.2.1 k (by omega) (by omega) (by omega) (by omega) (by omega) (by omega) (by omega) (by omega)
  rcases x4 with ⟨he, f1, f2, f3⟩ | ⟨he, n, f1, f2, f3, fV, f5, f6, f7, f8, f9⟩
  · obtain ⟨h', g1, W', g3⟩ := y1 he
    have R' : z_ref b σ h' := z_ref_q R (fun a h1 h2 => g3 a h1 (by omega))
    have F : ∀ a, b + 175 ≤ a → a < z → r_H (b + 152) σ' h' a = h a := fun a h1 h2 => (z_H_o (by omega)).trans (g3 a (by omega) h2)
    have e3 := l_X12_rope (b + 152) h' σ f1
    rw [z_rH R'] at e3
    refine ⟨_, z + 5, h', _, g1, z_fs R', e3, c, _, σ', z_W_H W' σ', z_ref_H _ _ _, z_J_up J (by omega) F ?_ ?_ ?_ (kI 2 (by omega)) (kA 3 (by decide) (by decide) (by decide)) (kA 5 (by decide) (by decide) (by decide)) (kA 6 (by decide) (by decide) (by decide)) ?_ ?_ (kA 33 (by decide) (by decide) (by decide)) (kA 34 (by decide) (by decide) (by decide)) (kA 35 (by decide) (by decide) (by decide)) (kA 36 (by decide) (by decide) (by decide)) ?_ (kA 23 (by decide) (by decide) (by decide))⟩
    · rw [va_up_at, x2, kA 0 (by decide) (by decide) (by decide)]
      exact z_JT0 J.2.1
    · rw [va_up_of (by decide), va_up_of (by decide), va_up_of (by decide)]
    · rw [va_up_of (by decide), va_up_of (by decide), va_up_of (by decide)]
    · rw [va_up_of (by decide), va_up_of (by decide), va_up_of (by decide), va_up_of (by decide), va_up_of (by decide), va_up_of (by decide), f2, kI 21 (by omega), kI 22 (by omega)]
      exact z_Gm_fr J.2.2.2.1 (by omega) (Nat.le_refl _) F
    · rw [va_up_of (by decide), va_up_of (by decide), va_up_of (by decide)]
    · rw [va_up_of (by decide), va_up_of (by decide), va_up_of (by decide), f2, f3, kA 25 (by decide) (by decide) (by decide)]
      exact z_JP_fr J.2.2.2.2.2.1 (fun i hi => by rw [va_up_of (by omega), va_up_of (by omega), va_up_of (by omega)]) (fun _ _ => rfl) (fun _ _ => rfl) rfl
  · obtain ⟨t', t1, t2⟩ := f9 (κ 7)
    obtain ⟨h', κ', g1, W', g3, g4, g5, g6, g7, g8, g9⟩ := y2 he t' t1
    have R' : z_ref b σ h' := z_ref_q R (fun a h1 h2 => g4 a h1 (by omega))
    have F : ∀ a, b + 175 ≤ a → a < z → r_H (b + 152) σ' h' a = h a := fun a h1 h2 => (z_H_o (by omega)).trans (g4 a (by omega) h2)
    have e3 := l_X12_rope (b + 152) h' σ f1
    rw [z_rH R'] at e3
    rw [f2] at g1
    obtain ⟨j1, j2, j3, j4, j5, j6⟩ := J.2.2.2.1
    obtain ⟨u, x, u1, u2, u3, u4, u5, u6⟩ := J.2.2.2.2.2.1
    refine ⟨_, z + 5, h', _, g1, z_fs R', e3, c, κ', σ', z_W_H W' σ', z_ref_H _ _ _, z_J_up J (by omega) F ?_ (g9 0 (by decide) (by decide) (by decide) (by decide) (by decide) (by decide)) (g9 5 (by decide) (by decide) (by decide) (by decide) (by decide) (by decide)) (kI 2 (by omega)) (kA 3 (by decide) (by decide) (by decide)) (kA 5 (by decide) (by decide) (by decide)) (kA 6 (by decide) (by decide) (by decide)) ?_ (g9 9 (by decide) (by decide) (by decide) (by decide) (by decide) (by decide)) (kA 33 (by decide) (by decide) (by decide)) (kA 34 (by decide) (by decide) (by decide)) (kA 35 (by decide) (by decide) (by decide)) (kA 36 (by decide) (by decide) (by decide)) ?_ (kA 23 (by decide) (by decide) (by decide))⟩
    · rw [g5, x2, kA 0 (by decide) (by decide) (by decide)]
      exact z_JT0 J.2.1
    · rw [g6, g7, kI 21 (by omega), kI 22 (by omega)]
      refine ⟨(z_si_In (by decide)).trans j1, (z_si_In (by decide)).trans j2, j3, j4, ⟨0, by omega, z_si_I _ _ _, f7 105 (by omega) (by omega), fun i hi => absurd hi (Nat.not_lt_zero _)⟩, Or.inr ⟨z, o', n, ?_, hz, Nat.le_refl _, fr4 g3 (fun a ha => z_H_o (by unfold f4 at ha; omega)), f5, f3, fV, t2, ⟨0, by omega, by rw [f6]; rfl⟩⟩⟩
      exact va_up_at (g_P (κ 6)) 0 (some z)
    · rw [g8]
      exact ⟨0, x, by omega, u2, (z_si_In (by decide)).trans u3, z_si_I _ _ _, f8, fun h => absurd rfl h⟩
/-- RULES beside the one that is read -/
theorem z_JR_f5 {z z' c : Nat} {k0 k5 : g_S} {σ σ' : r_S} {h h' : q_H} (H : z_JR b z c k0 k5 σ h) (hz : z ≤ z') (F : ∀ a, b + 175 ≤ a → a < z → h' a = h a) (h3 : ∀ i, i < 400 * c → r_A σ' 3 i = r_A σ 3 i) (h5 : ∀ i, i < 48 * c → r_A σ' 5 i = r_A σ 5 i) (h6 : ∀ i, i ≠ c → r_A σ' 6 i = r_A σ 6 i) : ∀ i, i < c → ∃ pr B, g_P k5 i = some pr ∧ b + 175 ≤ pr ∧ pr + 3 ≤ z' ∧ g6 pr B h' ∧ z_rl B σ' i := by
  obtain ⟨a1, a2, a3, a4, a5⟩ := H
  intro i hi
  obtain ⟨pr, B, x1, x2, x3, x4, x5⟩ := a4 i hi
  exact ⟨pr, B, x1, x2, by omega, fr6 x4 (fun a ha => F a (by unfold f6 at ha; omega) (by unfold f6 at ha; omega)), z_rl_ext x5 (fun j hj => h3 _ (by omega)) (fun j hj => h5 _ (by omega)) (h6 i (by omega))⟩
theorem s_3 : q_st3 b (b + 152) (z_I b) := by
  intro z h I
  have I0 := I
  obtain ⟨c, κ, σ, W, R, J⟩ := I
  have hz := J.1
  have JR := J.2.2.1
  obtain ⟨r1, r2, r3, r4, r5⟩ := J.2.2.1
  by_cases c6 : c = 6
  · have e3 := l_X12_rule (b + 152) h σ (r := -1) (s' := σ) (by
      unfold t_X12_rule
      try dsimp only
      rw [r3, if_pos (by rw [c6]; rfl)])
    rw [z_no R] at e3
    refine ⟨-1, z, h, h, ?_, z_fs R, e3, I0⟩
    unfold m_X11_rule
    rw [gi11_4 (Ww0 W), Option.bind_some, r2, if_neg (show ¬ nI c < 6 from nI_nlt (b := 6) (by omega) (by omega))]
  have hc : c < 6 := by omega
  obtain ⟨N, td, rd⟩ := z_tdr J.2.1
  obtain ⟨e, j', d', σ', x1, x2, x3, x4⟩ := z_ruleT (j := κ 4) (d := κ 2) td (rd σ rfl rfl) hc r3
  obtain ⟨y1, y2⟩ := z_ruleH W hz r2 hc x1
  rcases x4 with ⟨he, f1, f2, f3⟩ | ⟨he, f1, f2, f3, f4⟩
  · obtain ⟨h', g1, W', g3⟩ := y1 he
    have R' : z_ref b σ h' := z_ref_q R (fun a h1 h2 => g3 a h1)
    have F : ∀ a, b + 175 ≤ a → a < z → r_H (b + 152) σ' h' a = h a := fun a h1 h2 => (z_H_o (by omega)).trans (g3 a (by omega))
    have kA : ∀ k, k ≠ 3 → k ≠ 4 → k ≠ 5 → k ≠ 6 → k ≠ 15 → r_A σ' k = r_A σ k := fun k h1 h2 h3 h4 h5 => f2.1 k h1 h2 h3 h4 h5
    have kI : ∀ k, k = 21 ∨ k = 22 ∨ k = 26 → r_I σ' k = r_I σ k := fun k hk => (f2.2.2.2.2.2.1 k (by omega) (by omega) (by omega) (by omega) (by omega) (by omega) (by omega) (by omega)).trans (z_rsiIn (by omega))
    have e3 := l_X12_rule (b + 152) h' σ f1
    rw [z_rH R'] at e3
    have k : ∀ q, q ≠ 1 → q ≠ 2 → q ≠ 4 → (va_up (va_up (va_up κ 2 d') 4 j') 1 (g_si (κ 1) 1 0)) q = κ q := fun q q1 q2 q4 => (va_up_of q1).trans ((va_up_of q4).trans (va_up_of q2))
    refine ⟨_, z, h', _, g1, z_fs R', e3, c, _, σ', z_W_H W' σ', z_ref_H _ _ _, hz, ?_, ?_, ?_, ?_, ?_, ?_⟩
    · rw [va_up_at, x2, kA 0 (by decide) (by decide) (by decide) (by decide) (by decide)]
      exact z_JT0 J.2.1
    · rw [k 0 (by decide) (by decide) (by decide), k 5 (by decide) (by decide) (by decide)]
      exact ⟨r1, r2, f3, z_JR_f5 JR (Nat.le_refl _) F (fun i hi => f2.2.1 i (by omega)) (fun i hi => f2.2.2.2.1 i (by omega)) (fun i hi => f2.2.2.2.2.1 i hi), r5⟩
    · rw [k 6 (by decide) (by decide) (by decide), k 7 (by decide) (by decide) (by decide), kA 20 (by decide) (by decide) (by decide) (by decide) (by decide), kI 21 (by omega), kI 22 (by omega)]
      exact z_Gm_fr J.2.2.2.1 (Nat.le_refl _) (Nat.le_refl _) F
    · rw [k 9 (by decide) (by decide) (by decide)]
      exact z_JI_fr J.2.2.2.2.1 (Nat.le_refl _) (Nat.le_refl _) F (kA 33 (by decide) (by decide) (by decide) (by decide) (by decide)) (kA 34 (by decide) (by decide) (by decide) (by decide) (by decide)) (kA 35 (by decide) (by decide) (by decide) (by decide) (by decide)) (kA 36 (by decide) (by decide) (by decide) (by decide) (by decide))
    · rw [k 8 (by decide) (by decide) (by decide), kA 20 (by decide) (by decide) (by decide) (by decide) (by decide), kA 25 (by decide) (by decide) (by decide) (by decide) (by decide), kI 26 (by omega)]
      exact z_JP_fr J.2.2.2.2.2.1 (fun i hi => k (20 + i) (by omega) (by omega) (by omega)) (fun _ _ => rfl) (fun _ _ => rfl) rfl
    · rw [kA 23 (by decide) (by decide) (by decide) (by decide) (by decide)]
      exact J.2.2.2.2.2.2
  · obtain ⟨L, c2, l1, l2, l3, l4, l5⟩ := f2
    obtain ⟨h', κ', B, g1, W', g3, g4, g5, g6, g7, g8, g9, g10, g11, g12⟩ := y2 he L c2 l1 l2 l3 l4
    have R' : z_ref b σ h' := z_ref_q R (fun a h1 h2 => g8 a h1 (by omega))
    have F : ∀ a, b + 175 ≤ a → a < z → r_H (b + 152) σ' h' a = h a := fun a h1 h2 => (z_H_o (by omega)).trans (g8 a (by omega) h2)
    have kA : ∀ k, k ≠ 3 → k ≠ 4 → k ≠ 5 → k ≠ 6 → k ≠ 15 → r_A σ' k = r_A σ k := fun k h1 h2 h3 h4 h5 => f4.1 k h1 h2 h3 h4 h5
    have kI : ∀ k, k = 21 ∨ k = 22 ∨ k = 26 → r_I σ' k = r_I σ k := fun k hk => (z_rsiIn (σ := σ') (k := 2) (v := nI c) (by omega)).symm.trans ((f4.2.2.2.2.2.1 k (by omega) (by omega) (by omega) (by omega) (by omega) (by omega) (by omega) (by omega)).trans (z_rsiIn (by omega)))
    have e3 := l_X12_rule (b + 152) h' σ f1
    rw [z_rH R'] at e3
    have k : ∀ q, q ≠ 0 → q ≠ 1 → q ≠ 2 → q ≠ 4 → q ≠ 5 → κ' q = κ q := g12
    refine ⟨_, z + 3, h', _, g1, z_fs R', e3, c + 1, κ', σ', z_W_H W' σ', z_ref_H _ _ _, by omega, ?_, ?_, ?_, ?_, ?_, ?_⟩
    · rw [g10, x2, kA 0 (by decide) (by decide) (by decide) (by decide) (by decide)]
      exact z_JT0 J.2.1
    · have old := z_JR_f5 (z' := z + 3) (h' := r_H (b + 152) σ' h') (σ' := σ') JR (by omega) F (fun i hi => f4.2.1 i (by omega)) (fun i hi => f4.2.2.2.1 i (by omega)) (fun i hi => f4.2.2.2.2.1 i hi)
      refine ⟨by omega, by rw [g9, z_si_I], f3, fun i hi => ?_, fun i h1 h2 => ?_⟩
      · rw [g11]
        by_cases ei : i = c
        · subst ei
          exact ⟨z, B, va_up_at _ _ _, hz, Nat.le_refl _, fr6 g3 (fun a ha => z_H_o (by unfold f6 at ha; omega)), l5 B g4 g5 g6 g7⟩
        · rw [va_up_of ei]
          exact old i (by omega)
      · rw [g11, va_up_of (by omega)]
        exact r5 i (by omega) h2
    · rw [k 6 (by decide) (by decide) (by decide) (by decide) (by decide), k 7 (by decide) (by decide) (by decide) (by decide) (by decide), kA 20 (by decide) (by decide) (by decide) (by decide) (by decide), kI 21 (by omega), kI 22 (by omega)]
      exact z_Gm_fr J.2.2.2.1 (by omega) (by omega) F
    · rw [k 9 (by decide) (by decide) (by decide) (by decide) (by decide)]
      exact z_JI_fr J.2.2.2.2.1 (by omega) (by omega) F (kA 33 (by decide) (by decide) (by decide) (by decide) (by decide)) (kA 34 (by decide) (by decide) (by decide) (by decide) (by decide)) (kA 35 (by decide) (by decide) (by decide) (by decide) (by decide)) (kA 36 (by decide) (by decide) (by decide) (by decide) (by decide))
    · rw [k 8 (by decide) (by decide) (by decide) (by decide) (by decide), kA 20 (by decide) (by decide) (by decide) (by decide) (by decide), kA 25 (by decide) (by decide) (by decide) (by decide) (by decide), kI 26 (by omega)]
      exact z_JP_fr J.2.2.2.2.2.1 (fun i hi => k (20 + i) (by omega) (by omega) (by omega) (by omega) (by omega)) (fun _ _ => rfl) (fun _ _ => rfl) rfl
    · rw [kA 23 (by decide) (by decide) (by decide) (by decide) (by decide)]
      exact J.2.2.2.2.2.2
end RP
