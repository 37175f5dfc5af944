/-! ===== L3: the calls back and image ===== -/
def z_im (b z c : Nat) (k9 : g_S) (σ : r_S) (h : q_H) (k : Nat) : Prop := (g_P k9 k = none ∧ r_A σ 36 k = 0) ∨ ∃ pg g t, g_P k9 k = some pg ∧ r_A σ 36 k = 1 ∧ b + 175 ≤ pg ∧ pg + 8 ≤ z ∧ g0 pg g h ∧ g10 (pg + 1) t h ∧ g_P g 1 = some (pg + 1) ∧ z_Gm b z c g t (fun i => r_A σ 33 (106 * k + i)) (r_A σ 34 k) (r_A σ 35 k) h
theorem z_im_of {b z c : Nat} {k9 : g_S} {σ : r_S} {h : q_H} (H : z_JI b z c k9 σ h) : ∀ k, k < 4 → z_im b z c k9 σ h k := H.1
theorem z_q3 {a : Int32} (h : (3 : Int32) < a) : (4 : Int32) ≤ a := by
  rw [Int32.lt_iff_toInt_lt, show (3 : Int32).toInt = 3 by decide] at h
  rw [Int32.le_iff_toInt_le, show (4 : Int32).toInt = 4 by decide]
  omega
theorem z_q4 {a : Int32} (h : (3 : Int32) < a) : ¬ a < (4 : Int32) := Int32.not_lt.mpr (z_q3 h)
section IM
variable {b : Nat}
theorem z_ar9 {κ : Nat → g_S} {h : q_H} (W : z_W b κ h) {k : Nat} (hk : k < 4) : q_ar h (b + 123) 4 (nI k) = some (g_P (κ 9) k) := by
  unfold q_ar
  rw [Ww9 W]
  refine (if_pos ⟨rfl, show q_in (nI k) 4 from vp_in_nI hk (by decide)⟩).trans ?_
  rw [nI_clamp (by omega)]
/-- the GAME now changes, head and tug -/
theorem z_W67 {κ : Nat → g_S} {h h' : q_H} {l t : g_S} (W : z_W b κ h) (G : g0 (b + 13) l h') (T : g10 (b + 14) t h') (e1 : g_P l 1 = some (b + 14)) (F : ∀ a, a < b + 13 ∨ b + 21 ≤ a → h' a = h a) : z_W b (va_up (va_up κ 6 l) 7 t) h' := by
  obtain ⟨hA, hhA⟩ : ∃ hA : q_H, hA = fun a => if a = b + 13 ∨ a = b + 19 ∨ a = b + 20 then h' a else h a := ⟨_, rfl⟩
  have i : ∀ a, f0 (b + 13) a → hA a = h' a := fun a ha => by
    rw [hhA]
    exact if_pos (by unfold f0 at ha; omega)
  have j : ∀ a, ¬ f0 (b + 13) a → hA a = h a := fun a ha => by
    rw [hhA]
    exact if_neg (fun e => ha (by unfold f0; omega))
  have WA := W_6 W (fr0 G (fun a ha => i a ha)) (by rw [e1, Wp6_1 W]) j
  refine W_7 WA T (fun a ha => ?_)
  by_cases c : f0 (b + 13) a
  · rw [i a c]
  · rw [j a c]
    exact F a (by unfold f0 at c; unfold f10 at ha; omega)
theorem s_35 : q_st35 b (b + 152) (z_I b) := by
  intro z h a1 I
  have I0 := I
  obtain ⟨c, κ, σ, W, R, J⟩ := I
  have eH := z_no R
  have no : m_X11_back h b a1 = some (-1, h) → t_X12_back σ a1 = some (-1, σ) → ∃ (r : Int32) (h1 : q_H) (h2 : q_H), m_X11_back h b a1 = some (r, h1) ∧ (∃ fs, h1 (b + 152) = .inr (12, fs)) ∧ m_X12_back h1 (b + 152) a1 = some (r, h2) ∧ z_I b z h2 := fun e1 e2 => by
    have e3 := l_X12_back (b + 152) h σ a1 e2
    rw [eH] at e3
    exact ⟨_, h, h, e1, z_fs R, e3, I0⟩
  rcases z_rng a1 0 3 (L := 0) (H := 3) (L' := 0) (H' := 3) (by decide) (by decide) rfl rfl (by decide) (by decide) with ⟨k, l1, u1, rfl, i1, x1, y1, w1⟩ | ⟨i1, x1⟩
  rotate_left
  · refine no ?_ ?_
    · unfold m_X11_back
      rcases x1 with x1 | ⟨x1, y1, w1⟩
      · rw [if_pos x1]
      · rw [if_neg x1, if_pos (z_q3 y1)]
    · unfold t_X12_back
      rw [i1, Option.bind_some]
      exact if_pos rfl
  have hk : k < 4 := by omega
  have n4 : ¬ (4 : Int32) ≤ nI k := nI_ge (b := 4) hk (by decide)
  have e36 : t_ai 4 (r_A σ 36) (nI k) = some (r_A σ 36 k) := t_ai_in hk (by decide)
  rcases z_im_of J.2.2.2.2.1 k hk with ⟨m1, m2⟩ | ⟨pg, g, t, m1, m2, m3, m4, m5, m6, m7, m8⟩
  · refine no ?_ ?_
    · unfold m_X11_back
      rw [if_neg x1, if_neg n4, Wm7 W, Option.bind_some, z_ar9 W hk, Option.bind_some, if_pos m1]
    · unfold t_X12_back
      rw [i1, Option.bind_some, if_neg (by decide), e36, Option.bind_some, if_pos m2]
  · obtain ⟨h7, l', t', c1, c2, c3, c4, c5, c6, c7, c8, c9, c10, c11⟩ := z_gcopy (Ww6 W) (Ww7 W) (Wp6_1 W) m5 m6 m7 (by omega)
    have W7 := z_W67 W c2 c3 c5 (fun a ha => c11 a (by omega))
    have k8 : (va_up (va_up κ 6 l') 7 t') 8 = κ 8 := (va_up_of (by decide)).trans (va_up_of (by decide))
    have G8 := Ww8 W7
    rw [k8] at G8
    obtain ⟨h10, d1, d2, d3⟩ := pi2_2 0 G8
    have W10 := W_8 W7 d2 (by rw [k8]; rfl) d3
    have F10 : ∀ a, b + 152 ≤ a → h10 a = h a := fun a ha => (d3 a (by unfold f2; omega)).trans (c11 a (by omega))
    have R10 : z_ref b σ h10 := z_ref_q R (fun a h1 _ => F10 a h1)
    obtain ⟨τ, hτ⟩ : ∃ τ, τ = r_si (r_si (r_si σ 21 (r_A σ 34 k)) 22 (r_A σ 35 k)) 26 0 := ⟨_, rfl⟩
    have tI : ∀ q, q ≠ 21 → q ≠ 22 → q ≠ 26 → r_I τ q = r_I σ q := fun q h1 h2 h3 => by rw [hτ, z_rsiIn h3, z_rsiIn h2, z_rsiIn h1]
    have tA : r_A τ = r_A σ := by rw [hτ]; rfl
    obtain ⟨s, e1, e2, e3⟩ := z_backL (w := r_A σ 33) hk 106 0 q_fu τ (by omega) (by decide) (by rw [tA])
    have f2 : t_X12_back σ (nI k) = some (s 10, r_sa τ 20 s) := by
      unfold t_X12_back
      rw [i1, Option.bind_some, if_neg (by decide), e36, Option.bind_some, m2, if_neg (by decide), t_ai_in hk (by decide), Option.bind_some]
      try dsimp only
      rw [show r_A (r_si σ 21 (r_A σ 34 k)) 35 = r_A σ 35 from rfl, t_ai_in hk (by decide), Option.bind_some, ← hτ]
      exact e1
    have f3 := l_X12_back (b + 152) h10 σ (nI k) f2
    rw [z_rH R10] at f3
    have Gm2 : z_Gm b z c l' t' s (r_A σ 34 k) (r_A σ 35 k) h := z_Gm_cp (z_Gx m8 (fun j hj => e3 j (by omega) hj)) c4 c6 c7 c8 c9 c10
    have F : ∀ a, b + 175 ≤ a → a < z → r_H (b + 152) (r_sa τ 20 s) h10 a = h a := z_Fh F10 _
    have kk : ∀ q, q ≠ 6 → q ≠ 7 → q ≠ 8 → (va_up (va_up (va_up κ 6 l') 7 t') 8 (g_si (κ 8) 2 0)) q = κ q := fun q h6 h7 h8 => (va_up_of h8).trans ((va_up_of h7).trans (va_up_of h6))
    have rA : ∀ q, q ≠ 20 → r_A (r_sa τ 20 s) q = r_A σ q := fun q hq => (z_rAn hq).trans (by rw [tA])
    obtain ⟨u, x, u1', u2, u3, u4, u5, u6⟩ := J.2.2.2.2.2.1
    refine ⟨_, h10, _, ?_, z_fs R10, f3, c, _, _, z_W_H W10 _, z_ref_H _ _ _, z_J_up J (Nat.le_refl _) F ?_ (kk 0 (by decide) (by decide) (by decide)) (kk 5 (by decide) (by decide) (by decide)) (tI 2 (by decide) (by decide) (by decide)) (rA 3 (by decide)) (rA 5 (by decide)) (rA 6 (by decide)) ?_ (kk 9 (by decide) (by decide) (by decide)) (rA 33 (by decide)) (rA 34 (by decide)) (rA 35 (by decide)) (rA 36 (by decide)) ?_ (rA 23 (by decide))⟩
    · unfold m_X11_back
      rw [if_neg x1, if_neg n4, Wm7 W, Option.bind_some, z_ar9 W hk, Option.bind_some, if_neg (by rw [m1]; intro e; cases e), Wm5 W, Option.bind_some, Option.bind_some, z_ar9 W hk, m1, Option.bind_some, Option.bind_some, ca0 (Ww6 W), c1, Option.bind_some, Wm6 W7, Option.bind_some, ca2 (Ww8 W7), show m_X2_clear h7 (b + 21) = some h10 from by unfold m_X2_clear; rw [d1]; rfl, Option.bind_some, Wm5 W10, Option.bind_some, Wgt W10, Option.bind_some, gi10_1 (Ww7 W10), Option.bind_some, va_up_of (by decide), va_up_at, z_Gm_10 Gm2]
    · rw [kk 1 (by decide) (by decide) (by decide), rA 0 (by decide), show r_I (r_sa τ 20 s) 1 = r_I σ 1 from tI 1 (by decide) (by decide) (by decide)]
      exact J.2.1
    · rw [va_up_of (by decide), va_up_of (by decide), va_up_at, va_up_of (by decide), va_up_at, z_rA]
      rw [show r_I (r_sa τ 20 s) 21 = r_A σ 34 k from by
        show r_I τ 21 = _
        rw [hτ, z_rsiIn (by decide), z_rsiIn (by decide), z_rsiI], show r_I (r_sa τ 20 s) 22 = r_A σ 35 k from by
        show r_I τ 22 = _
        rw [hτ, z_rsiIn (by decide), z_rsiI]]
      exact z_Gm_fr Gm2 (Nat.le_refl _) (Nat.le_refl _) F
    · rw [va_up_at]
      exact ⟨0, x, by omega, u2, (z_si_In (by decide)).trans u3, z_si_I _ _ _, by
        show r_I τ 26 = _
        rw [hτ, z_rsiI]; rfl, fun h => absurd rfl h⟩
/-- an IMAGE is taken into the GAME at pg -/
theorem z_imgQ {z c k pg : Nat} {κ : Nat → g_S} {σ : r_S} {h : q_H} {g t : g_S} (hk : k < 4) (W : z_W b κ h) (R : z_ref b σ h) (hz : b + 175 ≤ z) (G : g0 pg g h) (T : g10 (pg + 1) t h) (hP : g_P g 1 = some (pg + 1)) (l1 : b + 175 ≤ pg) (l2 : pg + 8 ≤ z) (hpk : g_P (κ 9) k = some pg) (inj : ∀ k q pg, k < 4 → q < 4 → k ≠ q → g_P (κ 9) k = some pg → g_P (κ 9) q ≠ some pg)
    (JT : z_JT (κ 1) (r_A σ 0) (r_I σ 1)) (JR : z_JR b z c (κ 0) (κ 5) σ h) (JG : z_Gm b z c (κ 6) (κ 7) (r_A σ 20) (r_I σ 21) (r_I σ 22) h) (JI : ∀ q, q < 4 → q ≠ k → z_im b z c (κ 9) σ h q) (JP : z_JP (κ 8) (fun i => κ (20 + i)) (r_A σ 20) (r_A σ 25) (r_I σ 26)) (JL : ∀ p, p < 8 → r_A σ 23 p = -1) :
    ∃ h', m_X11_image_33 z h b (nI k) = some (r_A σ 20 10, z, h') ∧ (∃ fs, h' (b + 152) = .inr (12, fs)) ∧ ∃ h2, m_X12_image h' (b + 152) (nI k) = some (r_A σ 20 10, h2) ∧ z_I b z h2 := by
  obtain ⟨h', l', t', c1, c2, c3, c4, c5, c6, c7, c8, c9, c10, c11⟩ := z_gcopy G T hP (Ww6 W) (Ww7 W) (Wp6_1 W) (by omega)
  have W' : z_W b κ h' := W_n W (fun a ha => c11 a (by omega))
  have R' : z_ref b σ h' := z_ref_q R (fun a h1 h2 => c11 a (by omega))
  have K : z_blk pg h := ⟨g, t, G, T⟩
  -- the reference
  obtain ⟨τ, hτ⟩ : ∃ τ, τ = r_sa (r_sa (r_sa σ 36 (upd (r_A σ 36) k 1)) 34 (upd (r_A σ 34) k (r_I σ 21))) 35 (upd (r_A σ 35) k (r_I σ 22)) := ⟨_, rfl⟩
  have tI : ∀ q, r_I τ q = r_I σ q := fun q => by rw [hτ]; rfl
  have tA : ∀ q, q ≠ 34 → q ≠ 35 → q ≠ 36 → r_A τ q = r_A σ q := fun q h1 h2 h3 => by rw [hτ, z_rAn h2, z_rAn h1, z_rAn h3]
  have t36 : r_A τ 36 = upd (r_A σ 36) k 1 := by rw [hτ, z_rAn (by decide), z_rAn (by decide), z_rA]
  have t34 : r_A τ 34 = upd (r_A σ 34) k (r_I σ 21) := by rw [hτ, z_rAn (by decide), z_rA]
  have t35 : r_A τ 35 = upd (r_A σ 35) k (r_I σ 22) := by rw [hτ, z_rA]
  obtain ⟨w, e1, e2, e3⟩ := z_imgL (s := r_A σ 20) hk 106 0 q_fu τ (by omega) (by decide) (tA 20 (by decide) (by decide) (by decide))
  rw [tA 33 (by decide) (by decide) (by decide)] at e2
  have i1 : m_X12_in (nI k).toInt64 0 3 = some 1 := by
    rcases z_rng (nI k) 0 3 (L := 0) (H := 3) (L' := 0) (H' := 3) (by decide) (by decide) rfl rfl (by decide) (by decide) with ⟨m, l1, u1, e, i1, x1, y1, w1⟩ | ⟨i1, x1⟩
    · exact i1
    · rcases x1 with x1 | ⟨-, x1, -⟩
      · exact absurd x1 (nI_pos (by omega))
      · exact absurd x1 (show ¬ (3 : Int32) < nI k from nI_nlt (a := 3) (by omega) (by decide))
  have f2 : t_X12_image σ (nI k) = some (r_A σ 20 10, r_sa τ 33 w) := by
    unfold t_X12_image
    rw [i1, Option.bind_some, if_neg (by decide), show vp_nar .boolean (1 : Int32) = 1 from rfl, t_si_in hk (by decide), Option.bind_some]
    try dsimp only
    rw [show r_I (r_sa σ 36 (upd (r_A σ 36) k 1)) 21 = r_I σ 21 from rfl, t_si_in hk (by decide), Option.bind_some, z_rAn (by decide)]
    rw [show r_I (r_sa (r_sa σ 36 (upd (r_A σ 36) k 1)) 34 (upd (r_A σ 34) k (r_I σ 21))) 22 = r_I σ 22 from rfl, t_si_in hk (by decide), Option.bind_some, z_rAn (by decide), z_rAn (by decide), ← hτ]
    exact e1
  have f3 := l_X12_image (b + 152) h' σ (nI k) f2
  rw [z_rH R'] at f3
  have ro : ∀ a, b + 175 ≤ a → (a < pg ∨ pg + 8 ≤ a) → r_H (b + 152) (r_sa τ 33 w) h' a = h a := fun a h1 h2 => (z_H_o (by omega)).trans (c11 a h2)
  have P6 : ∀ pr B, b + 175 ≤ pr → g6 pr B h → g6 pr B (r_H (b + 152) (r_sa τ 33 w) h') := fun pr B h1 h2 => fr6 h2 (fun a ha => ro a (by unfold f6 at ha; omega) (by have := z_bd6 K h2; unfold f6 at ha; omega))
  have P4 : ∀ po o, b + 175 ≤ po → g4 po o h → g4 po o (r_H (b + 152) (r_sa τ 33 w) h') := fun po o h1 h2 => fr4 h2 (fun a ha => ro a (by unfold f4 at ha; omega) (by have := z_bd4 K h2; unfold f4 at ha; omega))
  have rA : ∀ q, q ≠ 33 → q ≠ 34 → q ≠ 35 → q ≠ 36 → r_A (r_sa τ 33 w) q = r_A σ q := fun q h0 h1 h2 h3 => (z_rAn h0).trans (tA q h1 h2 h3)
  refine ⟨h', ?_, z_fs R', _, f3, c, κ, _, z_W_H W' _, z_ref_H _ _ _, hz, ?_, ?_, ?_, ⟨fun q hq => ?_, inj⟩, ?_, ?_⟩
  · unfold m_X11_image_33
    rw [Wm7 W, Option.bind_some, z_ar9 W hk, hpk, Option.bind_some, Option.bind_some, Wm5 W, Option.bind_some, ca0 G, c1, Option.bind_some, Wm5 W', Option.bind_some, Wgt W', Option.bind_some, gi10_1 (Ww7 W'), Option.bind_some, z_Gm_10 JG]
  · rw [rA 0 (by decide) (by decide) (by decide) (by decide), show r_I (r_sa τ 33 w) 1 = r_I σ 1 from tI 1]
    exact JT
  · exact z_JR_fr2 JR P6 (tI 2) (rA 3 (by decide) (by decide) (by decide) (by decide)) (rA 5 (by decide) (by decide) (by decide) (by decide)) (rA 6 (by decide) (by decide) (by decide) (by decide))
  · rw [rA 20 (by decide) (by decide) (by decide) (by decide), show r_I (r_sa τ 33 w) 21 = r_I σ 21 from tI 21, show r_I (r_sa τ 33 w) 22 = r_I σ 22 from tI 22]
    exact z_Gm_fr2 JG P4
  · rw [z_rA, z_rAn (show 36 ≠ 33 by decide), z_rAn (show 34 ≠ 33 by decide), z_rAn (show 35 ≠ 33 by decide), t36, t34, t35]
    by_cases e : q = k
    · subst e
      rw [pk_us, pk_us, pk_us]
      refine Or.inr ⟨pg, l', t', hpk, rfl, l1, l2, fr0 c2 (fun a ha => z_H_o (by unfold f0 at ha; omega)), fr10 c3 (fun a ha => z_H_o (by unfold f10 at ha; omega)), c5, ?_⟩
      exact z_Gm_fr2 (z_Gm_cp (z_Gx JG (fun j hj => e3 j (by omega) hj)) c4 c6 c7 c8 c9 c10) P4
    · rw [pk_un e, pk_un e, pk_un e]
      rcases JI q hq e with x | ⟨pg', g', t1, x1, x2, x3, x4, x5, x6, x7, x8⟩
      · exact Or.inl x
      · have hne : pg ≠ pg' := fun e' => inj k q pg hk hq (fun e2 => e e2.symm) hpk (by rw [e']; exact x1)
        have D := z_bd0 K ⟨g', t1, x5, x6⟩ hne
        refine Or.inr ⟨pg', g', t1, x1, x2, x3, x4, fr0 x5 (fun a ha => ro a (by unfold f0 at ha; omega) (by unfold f0 at ha; omega)), fr10 x6 (fun a ha => ro a (by unfold f10 at ha; omega) (by unfold f10 at ha; omega)), x7, ?_⟩
        refine z_Gm_fr2 (z_Gx x8 (fun j hj => ?_)) P4
        exact e2 (106 * q + j) (by omega)
  · rw [rA 20 (by decide) (by decide) (by decide) (by decide), rA 25 (by decide) (by decide) (by decide) (by decide), show r_I (r_sa τ 33 w) 26 = r_I σ 26 from tI 26]
    exact JP
  · rw [rA 23 (by decide) (by decide) (by decide) (by decide)]
    exact JL
end IM
